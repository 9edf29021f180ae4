noncomputable def mX4_see (s_t : Int32 × Int32 × Int32 × Int32 × Int32 × Int32 × Int32 × Int32 × Int32 × Int64) (s_t_seenAt : Nat → Int32) (v1 : Int32) (v2 : Int32) (v3 : Int32) (v4 : Int32) : Option (Int32 × (Int32 × Int32 × Int32 × Int32 × Int32 × Int32 × Int32 × Int32 × Int32 × Int64) × (Nat → Int32)) := (mX4_isRange v1 v2).bind (fun x2 => (if x2 = true then (mX4_in (v4.toInt64) (0 : Int64) (2 : Int64)).bind (fun x15 => (if x15 = true then (mX4_isOrigin v3).bind (fun x25 => (if x25 = true then (if s_t.2.2.2.2.1 = (6 : Int32) then some ((-4 : Int32), s_t, s_t_seenAt) else wr s_t_seenAt 24 ((4 : Int32) * s_t.2.2.2.2.1) v1 (fun x56 => wr x56 24 (((4 : Int32) * s_t.2.2.2.2.1) + (1 : Int32)) v2 (fun x70 => wr x70 24 (((4 : Int32) * s_t.2.2.2.2.1) + (2 : Int32)) v3 (fun x84 => wr x84 24 (((4 : Int32) * s_t.2.2.2.2.1) + (3 : Int32)) v4 (fun x99 => some ((s_t.2.2.2.2.1 + (1 : Int32)), (s_t.1, s_t.2.1, s_t.2.2.1, s_t.2.2.2.1, (s_t.2.2.2.2.1 + (1 : Int32)), s_t.2.2.2.2.2.1, s_t.2.2.2.2.2.2.1, s_t.2.2.2.2.2.2.2.1, s_t.2.2.2.2.2.2.2.2.1, s_t.2.2.2.2.2.2.2.2.2), x99)))))) else some ((-1 : Int32), s_t, s_t_seenAt))) else some ((-2 : Int32), s_t, s_t_seenAt))) else some ((-2 : Int32), s_t, s_t_seenAt)))
set_option maxHeartbeats 4000000 in
set_option maxRecDepth 100000 in
theorem okX4_see {l : Launch} {dC : Nat → ClassId} {dI : Nat → Nat → Nat} {cI cC cZ : ClassId} (a_t a_t_text a_t_paper a_t_now a_t_trial a_t_diary a_t_kept a_t_isKept a_t_seenAt a_t_worth a_t_readPaper a_t_read : Nat) (s_t : Int32 × Int32 × Int32 × Int32 × Int32 × Int32 × Int32 × Int32 × Int32 × Int64) (s_t_seenAt : Nat → Int32) (v1 : Int32) (v2 : Int32) (v3 : Int32) (v4 : Int32) (res : Int32 × (Int32 × Int32 × Int32 × Int32 × Int32 × Int32 × Int32 × Int32 × Int32 × Int64) × (Nat → Int32)) (hM : mX4_see s_t s_t_seenAt v1 v2 v3 v4 = some res) : Mu l yX4_see cX4_see 5 (some .int) 2 46 (dC, dI) cI cC cZ [(a_t, .inr (4, [.ref a_t_text, .int s_t.1, .int s_t.2.1, .ref a_t_paper, .ref a_t_now, .ref a_t_trial, .ref a_t_diary, .int s_t.2.2.1, .int s_t.2.2.2.1, .ref a_t_kept, .ref a_t_isKept, .ref a_t_seenAt, .int s_t.2.2.2.2.1, .long s_t.2.2.2.2.2.2.2.2.2, .ref a_t_worth, .int s_t.2.2.2.2.2.1, .int s_t.2.2.2.2.2.2.1, .ref a_t_readPaper, .ref a_t_read, .int s_t.2.2.2.2.2.2.2.1, .int s_t.2.2.2.2.2.2.2.2.1])), (a_t_seenAt, .inl (cI, 24, .inl s_t_seenAt))] [(a_t, .inr (4, [.ref a_t_text, .int res.2.1.1, .int res.2.1.2.1, .ref a_t_paper, .ref a_t_now, .ref a_t_trial, .ref a_t_diary, .int res.2.1.2.2.1, .int res.2.1.2.2.2.1, .ref a_t_kept, .ref a_t_isKept, .ref a_t_seenAt, .int res.2.1.2.2.2.2.1, .long res.2.1.2.2.2.2.2.2.2.2.2, .ref a_t_worth, .int res.2.1.2.2.2.2.2.1, .int res.2.1.2.2.2.2.2.2.1, .ref a_t_readPaper, .ref a_t_read, .int res.2.1.2.2.2.2.2.2.2.1, .int res.2.1.2.2.2.2.2.2.2.2.1])), (a_t_seenAt, .inl (cI, 24, .inl res.2.2))] [.ref a_t, .int v1, .int v2, .int v3, .int v4] (some (.int res.1)) := by
  refine Mu.ofI (by decide) (Nat.le_of_ble_eq_true rfl) [(0, .ref a_t), (1, .int v1), (2, .int v2), (3, .int v3), (4, .int v4)] rfl ?_
  intro p e s m args below meth c ls Q A hx hb hml hown hU hE hP hD hS hA rt hl
  have hown : s.vm.findClass RX4 = some m.cls := hown
  unfold mX4_see at hM
  refine lv_iload_n hx hb dX4_see_0 rfl (lv_at hl 1 rfl) ?_
  refine lv_iload_n hx hb dX4_see_1 rfl (lv_at hl 2 rfl) ?_
  obtain ⟨x2, h2, hM⟩ := bind_e hM
  refine rdS (As := [.int v1, .int v2]) (rest := []) (st2 := [.int (b2i x2)]) ⟨hx, hb, hml, hown, hU⟩ hE (okX4_isRange v1 v2 x2 h2) lk_X4_75 (hP.sub [] rfl) rfl hl.1 rfl (Nat.le_of_ble_eq_true rfl) ⟨Nat.le_of_ble_eq_true rfl, Nat.le_of_ble_eq_true rfl⟩ dX4_see_2 ⟨Nat.le_refl _, Nat.le_refl _⟩ rfl ?_
  refine lv_if_eq (tgt := 21) hx hb dX4_see_5 (by decide) (fun c5 => ?_) (fun c5 => ?_)
  · have hM := ite_f (b2i_eq0 c5) hM
    refine lv_bipush (v := (-2 : Int32)) hx hb dX4_see_21 (by decide) ?_
    cases hM
    exact rt _ _ _ _ _ hP hS dX4_see_23 rfl
  · have hM := ite_t (b2i_ne0 c5) hM
    refine lv_iload hx hb dX4_see_8 (lv_at hl 4 rfl) ?_
    refine lv_i2l (v := (v4.toInt64)) hx hb dX4_see_10 rfl ?_
    refine lv_lconst (v := (0 : Int64)) hx hb dX4_see_11 (by decide) ?_
    refine lv_ldc2 hx hb hown (hU _ u_17_8) dX4_see_12 ?_
    obtain ⟨x15, h15, hM⟩ := bind_e hM
    refine rdS (As := [.long (v4.toInt64), .long (0 : Int64), .long (2 : Int64)]) (rest := []) (st2 := [.int (b2i x15)]) ⟨hx, hb, hml, hown, hU⟩ hE (okX4_in (v4.toInt64) (0 : Int64) (2 : Int64) x15 h15) lk_X4_50 (hP.sub [] rfl) rfl hl.1 rfl (Nat.le_of_ble_eq_true rfl) ⟨Nat.le_of_ble_eq_true rfl, Nat.le_of_ble_eq_true rfl⟩ dX4_see_15 ⟨Nat.le_refl _, Nat.le_refl _⟩ rfl ?_
    refine lv_if_ne (tgt := 24) hx hb dX4_see_18 (by decide) (fun c18 => ?_) (fun c18 => ?_)
    · have hM := ite_t (b2i_ne0 c18) hM
      refine lv_iload_n hx hb dX4_see_24 rfl (lv_at hl 3 rfl) ?_
      obtain ⟨x25, h25, hM⟩ := bind_e hM
      refine rdS (As := [.int v3]) (rest := []) (st2 := [.int (b2i x25)]) ⟨hx, hb, hml, hown, hU⟩ hE (okX4_isOrigin v3 x25 h25) lk_X4_185 (hP.sub [] rfl) rfl hl.1 rfl (Nat.le_of_ble_eq_true rfl) ⟨Nat.le_of_ble_eq_true rfl, Nat.le_of_ble_eq_true rfl⟩ dX4_see_25 ⟨Nat.le_refl _, Nat.le_refl _⟩ rfl ?_
      refine lv_if_ne (tgt := 33) hx hb dX4_see_28 (by decide) (fun c28 => ?_) (fun c28 => ?_)
      · have hM := ite_t (b2i_ne0 c28) hM
        refine lv_aload_n hx hb dX4_see_33 rfl (lv_at hl 0 rfl) ?_
        refine va_get (D := (dC, dI)) (ci := 4) (v := .int s_t.2.2.2.2.1) (C := RX4) (T := TX4) (N := 21) hx hb hU inlX4 hown hE.1 hP 0 rfl rfl 12 (by decide) (hU _ u_13_21) (fun _ h9 => h9) rfl dX4_see_34 ?_
        refine lv_bipush (v := (6 : Int32)) hx hb dX4_see_37 (by decide) ?_
        refine lv_icmp_ne (tgt := 45) hx hb dX4_see_39 (by decide) (fun c39 => ?_) (fun c39 => ?_)
        · have hM := ite_f c39 hM
          refine lv_aload_n hx hb dX4_see_45 rfl (lv_at hl 0 rfl) ?_
          refine va_get (D := (dC, dI)) (ci := 4) (v := .ref a_t_seenAt) (C := RX4) (T := TX4) (N := 21) hx hb hU inlX4 hown hE.1 hP 0 rfl rfl 11 (by decide) (hU _ u_4_21) (fun _ h9 => h9) rfl dX4_see_46 ?_
          refine lv_iconst (v := (4 : Int32)) hx hb dX4_see_49 (by decide) ?_
          refine lv_aload_n hx hb dX4_see_50 rfl (lv_at hl 0 rfl) ?_
          refine va_get (D := (dC, dI)) (ci := 4) (v := .int s_t.2.2.2.2.1) (C := RX4) (T := TX4) (N := 21) hx hb hU inlX4 hown hE.1 hP 0 rfl rfl 12 (by decide) (hU _ u_13_21) (fun _ h9 => h9) rfl dX4_see_51 ?_
          refine lv_imul hx hb dX4_see_54 ?_
          refine lv_iload_n hx hb dX4_see_55 rfl (lv_at hl 1 rfl) ?_
          obtain ⟨g56, hM⟩ := wr_e hM
          refine va_iast hx hb hE.1 hP hD hS 1 0 rfl rfl g56 dX4_see_56 (fun H locs hP hD hS => ?_)
          have hP : va_P (dC, dI) vwCl [(a_t, .inr (4, [.ref a_t_text, .int s_t.1, .int s_t.2.1, .ref a_t_paper, .ref a_t_now, .ref a_t_trial, .ref a_t_diary, .int s_t.2.2.1, .int s_t.2.2.2.1, .ref a_t_kept, .ref a_t_isKept, .ref a_t_seenAt, .int s_t.2.2.2.2.1, .long s_t.2.2.2.2.2.2.2.2.2, .ref a_t_worth, .int s_t.2.2.2.2.2.1, .int s_t.2.2.2.2.2.2.1, .ref a_t_readPaper, .ref a_t_read, .int s_t.2.2.2.2.2.2.2.1, .int s_t.2.2.2.2.2.2.2.2.1])), (a_t_seenAt, .inl (cI, 24, .inl (upd s_t_seenAt ((4 : Int32) * s_t.2.2.2.2.1).toNatClampNeg v1)))] H := hP
          have hD : va_D A [(a_t, .inr (4, [.ref a_t_text, .int s_t.1, .int s_t.2.1, .ref a_t_paper, .ref a_t_now, .ref a_t_trial, .ref a_t_diary, .int s_t.2.2.1, .int s_t.2.2.2.1, .ref a_t_kept, .ref a_t_isKept, .ref a_t_seenAt, .int s_t.2.2.2.2.1, .long s_t.2.2.2.2.2.2.2.2.2, .ref a_t_worth, .int s_t.2.2.2.2.2.1, .int s_t.2.2.2.2.2.2.1, .ref a_t_readPaper, .ref a_t_read, .int s_t.2.2.2.2.2.2.2.1, .int s_t.2.2.2.2.2.2.2.2.1])), (a_t_seenAt, .inl (cI, 24, .inl (upd s_t_seenAt ((4 : Int32) * s_t.2.2.2.2.1).toNatClampNeg v1)))] := hD
          refine lv_aload_n hx hb dX4_see_57 rfl (lv_at hl 0 rfl) ?_
          refine va_get (D := (dC, dI)) (ci := 4) (v := .ref a_t_seenAt) (C := RX4) (T := TX4) (N := 21) hx hb hU inlX4 hown hE.1 hP 0 rfl rfl 11 (by decide) (hU _ u_4_21) (fun _ h9 => h9) rfl dX4_see_58 ?_
          refine lv_iconst (v := (4 : Int32)) hx hb dX4_see_61 (by decide) ?_
          refine lv_aload_n hx hb dX4_see_62 rfl (lv_at hl 0 rfl) ?_
          refine va_get (D := (dC, dI)) (ci := 4) (v := .int s_t.2.2.2.2.1) (C := RX4) (T := TX4) (N := 21) hx hb hU inlX4 hown hE.1 hP 0 rfl rfl 12 (by decide) (hU _ u_13_21) (fun _ h9 => h9) rfl dX4_see_63 ?_
          refine lv_imul hx hb dX4_see_66 ?_
          refine lv_iconst (v := (1 : Int32)) hx hb dX4_see_67 (by decide) ?_
          refine lv_iadd hx hb dX4_see_68 ?_
          refine lv_iload_n hx hb dX4_see_69 rfl (lv_at hl 2 rfl) ?_
          obtain ⟨g70, hM⟩ := wr_e hM
          refine va_iast hx hb hE.1 hP hD hS 1 0 rfl rfl g70 dX4_see_70 (fun H locs hP hD hS => ?_)
          have hP : va_P (dC, dI) vwCl [(a_t, .inr (4, [.ref a_t_text, .int s_t.1, .int s_t.2.1, .ref a_t_paper, .ref a_t_now, .ref a_t_trial, .ref a_t_diary, .int s_t.2.2.1, .int s_t.2.2.2.1, .ref a_t_kept, .ref a_t_isKept, .ref a_t_seenAt, .int s_t.2.2.2.2.1, .long s_t.2.2.2.2.2.2.2.2.2, .ref a_t_worth, .int s_t.2.2.2.2.2.1, .int s_t.2.2.2.2.2.2.1, .ref a_t_readPaper, .ref a_t_read, .int s_t.2.2.2.2.2.2.2.1, .int s_t.2.2.2.2.2.2.2.2.1])), (a_t_seenAt, .inl (cI, 24, .inl (upd (upd s_t_seenAt ((4 : Int32) * s_t.2.2.2.2.1).toNatClampNeg v1) (((4 : Int32) * s_t.2.2.2.2.1) + (1 : Int32)).toNatClampNeg v2)))] H := hP
          have hD : va_D A [(a_t, .inr (4, [.ref a_t_text, .int s_t.1, .int s_t.2.1, .ref a_t_paper, .ref a_t_now, .ref a_t_trial, .ref a_t_diary, .int s_t.2.2.1, .int s_t.2.2.2.1, .ref a_t_kept, .ref a_t_isKept, .ref a_t_seenAt, .int s_t.2.2.2.2.1, .long s_t.2.2.2.2.2.2.2.2.2, .ref a_t_worth, .int s_t.2.2.2.2.2.1, .int s_t.2.2.2.2.2.2.1, .ref a_t_readPaper, .ref a_t_read, .int s_t.2.2.2.2.2.2.2.1, .int s_t.2.2.2.2.2.2.2.2.1])), (a_t_seenAt, .inl (cI, 24, .inl (upd (upd s_t_seenAt ((4 : Int32) * s_t.2.2.2.2.1).toNatClampNeg v1) (((4 : Int32) * s_t.2.2.2.2.1) + (1 : Int32)).toNatClampNeg v2)))] := hD
          refine lv_aload_n hx hb dX4_see_71 rfl (lv_at hl 0 rfl) ?_
          refine va_get (D := (dC, dI)) (ci := 4) (v := .ref a_t_seenAt) (C := RX4) (T := TX4) (N := 21) hx hb hU inlX4 hown hE.1 hP 0 rfl rfl 11 (by decide) (hU _ u_4_21) (fun _ h9 => h9) rfl dX4_see_72 ?_
          refine lv_iconst (v := (4 : Int32)) hx hb dX4_see_75 (by decide) ?_
          refine lv_aload_n hx hb dX4_see_76 rfl (lv_at hl 0 rfl) ?_
          refine va_get (D := (dC, dI)) (ci := 4) (v := .int s_t.2.2.2.2.1) (C := RX4) (T := TX4) (N := 21) hx hb hU inlX4 hown hE.1 hP 0 rfl rfl 12 (by decide) (hU _ u_13_21) (fun _ h9 => h9) rfl dX4_see_77 ?_
          refine lv_imul hx hb dX4_see_80 ?_
          refine lv_iconst (v := (2 : Int32)) hx hb dX4_see_81 (by decide) ?_
          refine lv_iadd hx hb dX4_see_82 ?_
          refine lv_iload_n hx hb dX4_see_83 rfl (lv_at hl 3 rfl) ?_
          obtain ⟨g84, hM⟩ := wr_e hM
          refine va_iast hx hb hE.1 hP hD hS 1 0 rfl rfl g84 dX4_see_84 (fun H locs hP hD hS => ?_)
          have hP : va_P (dC, dI) vwCl [(a_t, .inr (4, [.ref a_t_text, .int s_t.1, .int s_t.2.1, .ref a_t_paper, .ref a_t_now, .ref a_t_trial, .ref a_t_diary, .int s_t.2.2.1, .int s_t.2.2.2.1, .ref a_t_kept, .ref a_t_isKept, .ref a_t_seenAt, .int s_t.2.2.2.2.1, .long s_t.2.2.2.2.2.2.2.2.2, .ref a_t_worth, .int s_t.2.2.2.2.2.1, .int s_t.2.2.2.2.2.2.1, .ref a_t_readPaper, .ref a_t_read, .int s_t.2.2.2.2.2.2.2.1, .int s_t.2.2.2.2.2.2.2.2.1])), (a_t_seenAt, .inl (cI, 24, .inl (upd (upd (upd s_t_seenAt ((4 : Int32) * s_t.2.2.2.2.1).toNatClampNeg v1) (((4 : Int32) * s_t.2.2.2.2.1) + (1 : Int32)).toNatClampNeg v2) (((4 : Int32) * s_t.2.2.2.2.1) + (2 : Int32)).toNatClampNeg v3)))] H := hP
          have hD : va_D A [(a_t, .inr (4, [.ref a_t_text, .int s_t.1, .int s_t.2.1, .ref a_t_paper, .ref a_t_now, .ref a_t_trial, .ref a_t_diary, .int s_t.2.2.1, .int s_t.2.2.2.1, .ref a_t_kept, .ref a_t_isKept, .ref a_t_seenAt, .int s_t.2.2.2.2.1, .long s_t.2.2.2.2.2.2.2.2.2, .ref a_t_worth, .int s_t.2.2.2.2.2.1, .int s_t.2.2.2.2.2.2.1, .ref a_t_readPaper, .ref a_t_read, .int s_t.2.2.2.2.2.2.2.1, .int s_t.2.2.2.2.2.2.2.2.1])), (a_t_seenAt, .inl (cI, 24, .inl (upd (upd (upd s_t_seenAt ((4 : Int32) * s_t.2.2.2.2.1).toNatClampNeg v1) (((4 : Int32) * s_t.2.2.2.2.1) + (1 : Int32)).toNatClampNeg v2) (((4 : Int32) * s_t.2.2.2.2.1) + (2 : Int32)).toNatClampNeg v3)))] := hD
          refine lv_aload_n hx hb dX4_see_85 rfl (lv_at hl 0 rfl) ?_
          refine va_get (D := (dC, dI)) (ci := 4) (v := .ref a_t_seenAt) (C := RX4) (T := TX4) (N := 21) hx hb hU inlX4 hown hE.1 hP 0 rfl rfl 11 (by decide) (hU _ u_4_21) (fun _ h9 => h9) rfl dX4_see_86 ?_
          refine lv_iconst (v := (4 : Int32)) hx hb dX4_see_89 (by decide) ?_
          refine lv_aload_n hx hb dX4_see_90 rfl (lv_at hl 0 rfl) ?_
          refine va_get (D := (dC, dI)) (ci := 4) (v := .int s_t.2.2.2.2.1) (C := RX4) (T := TX4) (N := 21) hx hb hU inlX4 hown hE.1 hP 0 rfl rfl 12 (by decide) (hU _ u_13_21) (fun _ h9 => h9) rfl dX4_see_91 ?_
          refine lv_imul hx hb dX4_see_94 ?_
          refine lv_iconst (v := (3 : Int32)) hx hb dX4_see_95 (by decide) ?_
          refine lv_iadd hx hb dX4_see_96 ?_
          refine lv_iload hx hb dX4_see_97 (lv_at hl 4 rfl) ?_
          obtain ⟨g99, hM⟩ := wr_e hM
          refine va_iast hx hb hE.1 hP hD hS 1 0 rfl rfl g99 dX4_see_99 (fun H locs hP hD hS => ?_)
          have hP : va_P (dC, dI) vwCl [(a_t, .inr (4, [.ref a_t_text, .int s_t.1, .int s_t.2.1, .ref a_t_paper, .ref a_t_now, .ref a_t_trial, .ref a_t_diary, .int s_t.2.2.1, .int s_t.2.2.2.1, .ref a_t_kept, .ref a_t_isKept, .ref a_t_seenAt, .int s_t.2.2.2.2.1, .long s_t.2.2.2.2.2.2.2.2.2, .ref a_t_worth, .int s_t.2.2.2.2.2.1, .int s_t.2.2.2.2.2.2.1, .ref a_t_readPaper, .ref a_t_read, .int s_t.2.2.2.2.2.2.2.1, .int s_t.2.2.2.2.2.2.2.2.1])), (a_t_seenAt, .inl (cI, 24, .inl (upd (upd (upd (upd s_t_seenAt ((4 : Int32) * s_t.2.2.2.2.1).toNatClampNeg v1) (((4 : Int32) * s_t.2.2.2.2.1) + (1 : Int32)).toNatClampNeg v2) (((4 : Int32) * s_t.2.2.2.2.1) + (2 : Int32)).toNatClampNeg v3) (((4 : Int32) * s_t.2.2.2.2.1) + (3 : Int32)).toNatClampNeg v4)))] H := hP
          have hD : va_D A [(a_t, .inr (4, [.ref a_t_text, .int s_t.1, .int s_t.2.1, .ref a_t_paper, .ref a_t_now, .ref a_t_trial, .ref a_t_diary, .int s_t.2.2.1, .int s_t.2.2.2.1, .ref a_t_kept, .ref a_t_isKept, .ref a_t_seenAt, .int s_t.2.2.2.2.1, .long s_t.2.2.2.2.2.2.2.2.2, .ref a_t_worth, .int s_t.2.2.2.2.2.1, .int s_t.2.2.2.2.2.2.1, .ref a_t_readPaper, .ref a_t_read, .int s_t.2.2.2.2.2.2.2.1, .int s_t.2.2.2.2.2.2.2.2.1])), (a_t_seenAt, .inl (cI, 24, .inl (upd (upd (upd (upd s_t_seenAt ((4 : Int32) * s_t.2.2.2.2.1).toNatClampNeg v1) (((4 : Int32) * s_t.2.2.2.2.1) + (1 : Int32)).toNatClampNeg v2) (((4 : Int32) * s_t.2.2.2.2.1) + (2 : Int32)).toNatClampNeg v3) (((4 : Int32) * s_t.2.2.2.2.1) + (3 : Int32)).toNatClampNeg v4)))] := hD
          refine lv_aload_n hx hb dX4_see_100 rfl (lv_at hl 0 rfl) ?_
          refine lv_dup hx hb dX4_see_101 rfl ?_
          refine va_get (D := (dC, dI)) (ci := 4) (v := .int s_t.2.2.2.2.1) (C := RX4) (T := TX4) (N := 21) hx hb hU inlX4 hown hE.1 hP 0 rfl rfl 12 (by decide) (hU _ u_13_21) (fun _ h9 => h9) rfl dX4_see_102 ?_
          refine lv_iconst (v := (1 : Int32)) hx hb dX4_see_105 (by decide) ?_
          refine lv_iadd hx hb dX4_see_106 ?_
          refine va_put (D := (dC, dI)) (ci := 4) (v := .int (s_t.2.2.2.2.1 + (1 : Int32))) (ty := .int) (C := RX4) (T := TX4) (N := 21) hx hb hU inlX4 tyX4 tyX4_ok nmX4 hown hE.1 hP hD hS 0 rfl rfl 12 (by decide) (hU _ u_13_21) (fun _ h9 => h9) rfl (tyX4_ok 12 (by decide)) rfl rfl (Nat.le_of_ble_eq_true rfl) dX4_see_107 (fun H locs hP hD hS => ?_)
          have hP : va_P (dC, dI) vwCl [(a_t, .inr (4, [.ref a_t_text, .int s_t.1, .int s_t.2.1, .ref a_t_paper, .ref a_t_now, .ref a_t_trial, .ref a_t_diary, .int s_t.2.2.1, .int s_t.2.2.2.1, .ref a_t_kept, .ref a_t_isKept, .ref a_t_seenAt, .int (s_t.2.2.2.2.1 + (1 : Int32)), .long s_t.2.2.2.2.2.2.2.2.2, .ref a_t_worth, .int s_t.2.2.2.2.2.1, .int s_t.2.2.2.2.2.2.1, .ref a_t_readPaper, .ref a_t_read, .int s_t.2.2.2.2.2.2.2.1, .int s_t.2.2.2.2.2.2.2.2.1])), (a_t_seenAt, .inl (cI, 24, .inl (upd (upd (upd (upd s_t_seenAt ((4 : Int32) * s_t.2.2.2.2.1).toNatClampNeg v1) (((4 : Int32) * s_t.2.2.2.2.1) + (1 : Int32)).toNatClampNeg v2) (((4 : Int32) * s_t.2.2.2.2.1) + (2 : Int32)).toNatClampNeg v3) (((4 : Int32) * s_t.2.2.2.2.1) + (3 : Int32)).toNatClampNeg v4)))] H := hP
          have hD : va_D A [(a_t, .inr (4, [.ref a_t_text, .int s_t.1, .int s_t.2.1, .ref a_t_paper, .ref a_t_now, .ref a_t_trial, .ref a_t_diary, .int s_t.2.2.1, .int s_t.2.2.2.1, .ref a_t_kept, .ref a_t_isKept, .ref a_t_seenAt, .int (s_t.2.2.2.2.1 + (1 : Int32)), .long s_t.2.2.2.2.2.2.2.2.2, .ref a_t_worth, .int s_t.2.2.2.2.2.1, .int s_t.2.2.2.2.2.2.1, .ref a_t_readPaper, .ref a_t_read, .int s_t.2.2.2.2.2.2.2.1, .int s_t.2.2.2.2.2.2.2.2.1])), (a_t_seenAt, .inl (cI, 24, .inl (upd (upd (upd (upd s_t_seenAt ((4 : Int32) * s_t.2.2.2.2.1).toNatClampNeg v1) (((4 : Int32) * s_t.2.2.2.2.1) + (1 : Int32)).toNatClampNeg v2) (((4 : Int32) * s_t.2.2.2.2.1) + (2 : Int32)).toNatClampNeg v3) (((4 : Int32) * s_t.2.2.2.2.1) + (3 : Int32)).toNatClampNeg v4)))] := hD
          refine lv_aload_n hx hb dX4_see_110 rfl (lv_at hl 0 rfl) ?_
          refine va_get (D := (dC, dI)) (ci := 4) (v := .int (s_t.2.2.2.2.1 + (1 : Int32))) (C := RX4) (T := TX4) (N := 21) hx hb hU inlX4 hown hE.1 hP 0 rfl rfl 12 (by decide) (hU _ u_13_21) (fun _ h9 => h9) rfl dX4_see_111 ?_
          cases hM
          exact rt _ _ _ _ _ hP hS dX4_see_114 rfl
        · have hM := ite_t c39 hM
          refine lv_bipush (v := (-4 : Int32)) hx hb dX4_see_42 (by decide) ?_
          cases hM
          exact rt _ _ _ _ _ hP hS dX4_see_44 rfl
      · have hM := ite_f (b2i_eq0 c28) hM
        refine lv_iconst (v := (-1 : Int32)) hx hb dX4_see_31 (by decide) ?_
        cases hM
        exact rt _ _ _ _ _ hP hS dX4_see_32 rfl
    · have hM := ite_f (b2i_eq0 c18) hM
      refine lv_bipush (v := (-2 : Int32)) hx hb dX4_see_21 (by decide) ?_
      cases hM
      exact rt _ _ _ _ _ hP hS dX4_see_23 rfl
noncomputable def mX4_seed (s_t : Int32 × Int32 × Int32 × Int32 × Int32 × Int32 × Int32 × Int32 × Int32 × Int64) (v1 : Int64) : Option (Int64 × (Int32 × Int32 × Int32 × Int32 × Int32 × Int32 × Int32 × Int32 × Int32 × Int64)) := some (s_t.2.2.2.2.2.2.2.2.2, (s_t.1, s_t.2.1, s_t.2.2.1, s_t.2.2.2.1, s_t.2.2.2.2.1, s_t.2.2.2.2.2.1, s_t.2.2.2.2.2.2.1, s_t.2.2.2.2.2.2.2.1, s_t.2.2.2.2.2.2.2.2.1, v1))
set_option maxHeartbeats 4000000 in
set_option maxRecDepth 100000 in
theorem okX4_seed {l : Launch} {dC : Nat → ClassId} {dI : Nat → Nat → Nat} {cI cC cZ : ClassId} (a_t a_t_text a_t_paper a_t_now a_t_trial a_t_diary a_t_kept a_t_isKept a_t_seenAt a_t_worth a_t_readPaper a_t_read : Nat) (s_t : Int32 × Int32 × Int32 × Int32 × Int32 × Int32 × Int32 × Int32 × Int32 × Int64) (v1 : Int64) (res : Int64 × (Int32 × Int32 × Int32 × Int32 × Int32 × Int32 × Int32 × Int32 × Int32 × Int64)) (hM : mX4_seed s_t v1 = some res) : Mu l yX4_seed cX4_seed 5 (some .long) 0 0 (dC, dI) cI cC cZ [(a_t, .inr (4, [.ref a_t_text, .int s_t.1, .int s_t.2.1, .ref a_t_paper, .ref a_t_now, .ref a_t_trial, .ref a_t_diary, .int s_t.2.2.1, .int s_t.2.2.2.1, .ref a_t_kept, .ref a_t_isKept, .ref a_t_seenAt, .int s_t.2.2.2.2.1, .long s_t.2.2.2.2.2.2.2.2.2, .ref a_t_worth, .int s_t.2.2.2.2.2.1, .int s_t.2.2.2.2.2.2.1, .ref a_t_readPaper, .ref a_t_read, .int s_t.2.2.2.2.2.2.2.1, .int s_t.2.2.2.2.2.2.2.2.1]))] [(a_t, .inr (4, [.ref a_t_text, .int res.2.1, .int res.2.2.1, .ref a_t_paper, .ref a_t_now, .ref a_t_trial, .ref a_t_diary, .int res.2.2.2.1, .int res.2.2.2.2.1, .ref a_t_kept, .ref a_t_isKept, .ref a_t_seenAt, .int res.2.2.2.2.2.1, .long res.2.2.2.2.2.2.2.2.2.2, .ref a_t_worth, .int res.2.2.2.2.2.2.1, .int res.2.2.2.2.2.2.2.1, .ref a_t_readPaper, .ref a_t_read, .int res.2.2.2.2.2.2.2.2.1, .int res.2.2.2.2.2.2.2.2.2.1]))] [.ref a_t, .long v1] (some (.long res.1)) := by
  refine Mu.ofJ (by decide) (Nat.le_of_ble_eq_true rfl) [(0, .ref a_t), (1, .long v1)] rfl ?_
  intro p e s m args below meth c ls Q A hx hb hml hown hU hE hP hD hS hA rt hl
  have hown : s.vm.findClass RX4 = some m.cls := hown
  unfold mX4_seed at hM
  refine lv_aload_n hx hb dX4_seed_0 rfl (lv_at hl 0 rfl) ?_
  refine va_get (D := (dC, dI)) (ci := 4) (v := .long s_t.2.2.2.2.2.2.2.2.2) (C := RX4) (T := TX4) (N := 21) hx hb hU inlX4 hown hE.1 hP 0 rfl rfl 13 (by decide) (hU _ u_30_15) (fun _ h9 => h9) rfl dX4_seed_1 ?_
  refine lv_lstore_n (lv' := [(3, .long s_t.2.2.2.2.2.2.2.2.2), (0, .ref a_t), (1, .long v1)]) hx hb dX4_seed_4 rfl hl (by decide) rfl (fun ls hl => ?_)
  refine lv_aload_n hx hb dX4_seed_5 rfl (lv_at hl 1 rfl) ?_
  refine lv_lload_n hx hb dX4_seed_6 rfl (lv_at hl 2 rfl) ?_
  refine va_put (D := (dC, dI)) (ci := 4) (v := .long v1) (ty := .long) (C := RX4) (T := TX4) (N := 21) hx hb hU inlX4 tyX4 tyX4_ok nmX4 hown hE.1 hP hD hS 0 rfl rfl 13 (by decide) (hU _ u_30_15) (fun _ h9 => h9) rfl (tyX4_ok 13 (by decide)) rfl rfl (Nat.le_of_ble_eq_true rfl) dX4_seed_7 (fun H locs hP hD hS => ?_)
  have hP : va_P (dC, dI) vwCl [(a_t, .inr (4, [.ref a_t_text, .int s_t.1, .int s_t.2.1, .ref a_t_paper, .ref a_t_now, .ref a_t_trial, .ref a_t_diary, .int s_t.2.2.1, .int s_t.2.2.2.1, .ref a_t_kept, .ref a_t_isKept, .ref a_t_seenAt, .int s_t.2.2.2.2.1, .long v1, .ref a_t_worth, .int s_t.2.2.2.2.2.1, .int s_t.2.2.2.2.2.2.1, .ref a_t_readPaper, .ref a_t_read, .int s_t.2.2.2.2.2.2.2.1, .int s_t.2.2.2.2.2.2.2.2.1]))] H := hP
  have hD : va_D A [(a_t, .inr (4, [.ref a_t_text, .int s_t.1, .int s_t.2.1, .ref a_t_paper, .ref a_t_now, .ref a_t_trial, .ref a_t_diary, .int s_t.2.2.1, .int s_t.2.2.2.1, .ref a_t_kept, .ref a_t_isKept, .ref a_t_seenAt, .int s_t.2.2.2.2.1, .long v1, .ref a_t_worth, .int s_t.2.2.2.2.2.1, .int s_t.2.2.2.2.2.2.1, .ref a_t_readPaper, .ref a_t_read, .int s_t.2.2.2.2.2.2.2.1, .int s_t.2.2.2.2.2.2.2.2.1]))] := hD
  refine lv_lload_n hx hb dX4_seed_10 rfl (lv_at hl 0 rfl) ?_
  cases hM
  exact rt _ _ _ _ _ hP hS dX4_seed_11 rfl
noncomputable def mX4_setAside (s_t : Int32 × Int32 × Int32 × Int32 × Int32 × Int32 × Int32 × Int32 × Int32 × Int64) (s_t_now : Nat → Int32) (s_t_diary : Nat → Int32) (v1 : Int32) : Option (Int32 × (Int32 × Int32 × Int32 × Int32 × Int32 × Int32 × Int32 × Int32 × Int32 × Int64) × (Nat → Int32) × (Nat → Int32)) := (mX4_isOrigin v1).bind (fun x1 => (if x1 = true then (mX4_note s_t s_t_now s_t_diary).bind (fun x10 => rd s_t_now 66 (64 : Int32) (fun x20 => wr s_t_now 66 (64 : Int32) (x20 ^^^ ((1 : Int32) <<< (v1 &&& 31))) (fun x25 => rd x25 66 (64 : Int32) (fun x32 => some (((x32 >>> (v1 &&& 31)) &&& (1 : Int32)), x10.1, x25, x10.2))))) else some ((-1 : Int32), s_t, s_t_now, s_t_diary)))
set_option maxHeartbeats 4000000 in
set_option maxRecDepth 100000 in
theorem okX4_setAside {l : Launch} {dC : Nat → ClassId} {dI : Nat → Nat → Nat} {cI cC cZ : ClassId} (a_t a_t_text a_t_paper a_t_now a_t_trial a_t_diary a_t_kept a_t_isKept a_t_seenAt a_t_worth a_t_readPaper a_t_read : Nat) (s_t : Int32 × Int32 × Int32 × Int32 × Int32 × Int32 × Int32 × Int32 × Int32 × Int64) (s_t_now : Nat → Int32) (s_t_diary : Nat → Int32) (v1 : Int32) (res : Int32 × (Int32 × Int32 × Int32 × Int32 × Int32 × Int32 × Int32 × Int32 × Int32 × Int64) × (Nat → Int32) × (Nat → Int32)) (hM : mX4_setAside s_t s_t_now s_t_diary v1 = some res) : Mu l yX4_setAside cX4_setAside 2 (some .int) 2 45 (dC, dI) cI cC cZ [(a_t, .inr (4, [.ref a_t_text, .int s_t.1, .int s_t.2.1, .ref a_t_paper, .ref a_t_now, .ref a_t_trial, .ref a_t_diary, .int s_t.2.2.1, .int s_t.2.2.2.1, .ref a_t_kept, .ref a_t_isKept, .ref a_t_seenAt, .int s_t.2.2.2.2.1, .long s_t.2.2.2.2.2.2.2.2.2, .ref a_t_worth, .int s_t.2.2.2.2.2.1, .int s_t.2.2.2.2.2.2.1, .ref a_t_readPaper, .ref a_t_read, .int s_t.2.2.2.2.2.2.2.1, .int s_t.2.2.2.2.2.2.2.2.1])), (a_t_now, .inl (cI, 66, .inl s_t_now)), (a_t_diary, .inl (cI, 924, .inl s_t_diary))] [(a_t, .inr (4, [.ref a_t_text, .int res.2.1.1, .int res.2.1.2.1, .ref a_t_paper, .ref a_t_now, .ref a_t_trial, .ref a_t_diary, .int res.2.1.2.2.1, .int res.2.1.2.2.2.1, .ref a_t_kept, .ref a_t_isKept, .ref a_t_seenAt, .int res.2.1.2.2.2.2.1, .long res.2.1.2.2.2.2.2.2.2.2.2, .ref a_t_worth, .int res.2.1.2.2.2.2.2.1, .int res.2.1.2.2.2.2.2.2.1, .ref a_t_readPaper, .ref a_t_read, .int res.2.1.2.2.2.2.2.2.2.1, .int res.2.1.2.2.2.2.2.2.2.2.1])), (a_t_now, .inl (cI, 66, .inl res.2.2.1)), (a_t_diary, .inl (cI, 924, .inl res.2.2.2))] [.ref a_t, .int v1] (some (.int res.1)) := by
  refine Mu.ofI (by decide) (Nat.le_of_ble_eq_true rfl) [(0, .ref a_t), (1, .int v1)] rfl ?_
  intro p e s m args below meth c ls Q A hx hb hml hown hU hE hP hD hS hA rt hl
  have hown : s.vm.findClass RX4 = some m.cls := hown
  unfold mX4_setAside at hM
  refine lv_iload_n hx hb dX4_setAside_0 rfl (lv_at hl 1 rfl) ?_
  obtain ⟨x1, h1, hM⟩ := bind_e hM
  refine rdS (As := [.int v1]) (rest := []) (st2 := [.int (b2i x1)]) ⟨hx, hb, hml, hown, hU⟩ hE (okX4_isOrigin v1 x1 h1) lk_X4_185 (hP.sub [] rfl) rfl hl.1 rfl (Nat.le_of_ble_eq_true rfl) ⟨Nat.le_of_ble_eq_true rfl, Nat.le_of_ble_eq_true rfl⟩ dX4_setAside_1 ⟨Nat.le_refl _, Nat.le_refl _⟩ rfl ?_
  refine lv_if_ne (tgt := 9) hx hb dX4_setAside_4 (by decide) (fun c4 => ?_) (fun c4 => ?_)
  · have hM := ite_t (b2i_ne0 c4) hM
    refine lv_aload_n hx hb dX4_setAside_9 rfl (lv_at hl 0 rfl) ?_
    obtain ⟨x10, h10, hM⟩ := bind_e hM
    refine muV (As := []) (rest := []) (st2 := []) (nw := [(a_t, .inr (4, [.ref a_t_text, .int x10.1.1, .int x10.1.2.1, .ref a_t_paper, .ref a_t_now, .ref a_t_trial, .ref a_t_diary, .int x10.1.2.2.1, .int x10.1.2.2.2.1, .ref a_t_kept, .ref a_t_isKept, .ref a_t_seenAt, .int x10.1.2.2.2.2.1, .long x10.1.2.2.2.2.2.2.2.2.2, .ref a_t_worth, .int x10.1.2.2.2.2.2.1, .int x10.1.2.2.2.2.2.2.1, .ref a_t_readPaper, .ref a_t_read, .int x10.1.2.2.2.2.2.2.2.1, .int x10.1.2.2.2.2.2.2.2.2.1])), (a_t_now, .inl (cI, 66, .inl s_t_now)), (a_t_diary, .inl (cI, 924, .inl x10.2))]) ⟨hx, hb, hml, hown, hU⟩ hE (okX4_note a_t a_t_text a_t_paper a_t_now a_t_trial a_t_diary a_t_kept a_t_isKept a_t_seenAt a_t_worth a_t_readPaper a_t_read s_t s_t_now s_t_diary x10 h10) lk_X4_188 hP hD hS hA [0, 1, 2] rfl rfl rfl rfl rfl rfl hl.1 rfl (Nat.le_of_ble_eq_true rfl) ⟨Nat.le_of_ble_eq_true rfl, Nat.le_of_ble_eq_true rfl⟩ dX4_setAside_10 ⟨Nat.le_refl _, Nat.le_refl _⟩ rfl rfl rfl rfl (fun H locs hP hD hS => ?_)
    refine lv_aload_n hx hb dX4_setAside_13 rfl (lv_at hl 0 rfl) ?_
    refine va_get (D := (dC, dI)) (ci := 4) (v := .ref a_t_now) (C := RX4) (T := TX4) (N := 21) hx hb hU inlX4 hown hE.1 hP 0 rfl rfl 4 (by decide) (hU _ u_4_15) (fun _ h9 => h9) rfl dX4_setAside_14 ?_
    refine lv_bipush (v := (64 : Int32)) hx hb dX4_setAside_17 (by decide) ?_
    refine lv_dup2_11 hx hb dX4_setAside_19 rfl rfl ?_
    obtain ⟨g20, hM⟩ := rd_e hM
    refine va_iald hx hb hE.1 hP 1 0 rfl rfl g20 dX4_setAside_20 ?_
    refine lv_iconst (v := (1 : Int32)) hx hb dX4_setAside_21 (by decide) ?_
    refine lv_iload_n hx hb dX4_setAside_22 rfl (lv_at hl 1 rfl) ?_
    refine lv_ishl hx hb dX4_setAside_23 ?_
    refine lv_ixor hx hb dX4_setAside_24 ?_
    obtain ⟨g25, hM⟩ := wr_e hM
    refine va_iast hx hb hE.1 hP hD hS 1 0 rfl rfl g25 dX4_setAside_25 (fun H locs hP hD hS => ?_)
    have hP : va_P (dC, dI) vwCl [(a_t, .inr (4, [.ref a_t_text, .int x10.1.1, .int x10.1.2.1, .ref a_t_paper, .ref a_t_now, .ref a_t_trial, .ref a_t_diary, .int x10.1.2.2.1, .int x10.1.2.2.2.1, .ref a_t_kept, .ref a_t_isKept, .ref a_t_seenAt, .int x10.1.2.2.2.2.1, .long x10.1.2.2.2.2.2.2.2.2.2, .ref a_t_worth, .int x10.1.2.2.2.2.2.1, .int x10.1.2.2.2.2.2.2.1, .ref a_t_readPaper, .ref a_t_read, .int x10.1.2.2.2.2.2.2.2.1, .int x10.1.2.2.2.2.2.2.2.2.1])), (a_t_now, .inl (cI, 66, .inl (upd s_t_now (64 : Int32).toNatClampNeg ((s_t_now (64 : Int32).toNatClampNeg) ^^^ ((1 : Int32) <<< (v1 &&& 31)))))), (a_t_diary, .inl (cI, 924, .inl x10.2))] H := hP
    have hD : va_D A [(a_t, .inr (4, [.ref a_t_text, .int x10.1.1, .int x10.1.2.1, .ref a_t_paper, .ref a_t_now, .ref a_t_trial, .ref a_t_diary, .int x10.1.2.2.1, .int x10.1.2.2.2.1, .ref a_t_kept, .ref a_t_isKept, .ref a_t_seenAt, .int x10.1.2.2.2.2.1, .long x10.1.2.2.2.2.2.2.2.2.2, .ref a_t_worth, .int x10.1.2.2.2.2.2.1, .int x10.1.2.2.2.2.2.2.1, .ref a_t_readPaper, .ref a_t_read, .int x10.1.2.2.2.2.2.2.2.1, .int x10.1.2.2.2.2.2.2.2.2.1])), (a_t_now, .inl (cI, 66, .inl (upd s_t_now (64 : Int32).toNatClampNeg ((s_t_now (64 : Int32).toNatClampNeg) ^^^ ((1 : Int32) <<< (v1 &&& 31)))))), (a_t_diary, .inl (cI, 924, .inl x10.2))] := hD
    refine lv_aload_n hx hb dX4_setAside_26 rfl (lv_at hl 0 rfl) ?_
    refine va_get (D := (dC, dI)) (ci := 4) (v := .ref a_t_now) (C := RX4) (T := TX4) (N := 21) hx hb hU inlX4 hown hE.1 hP 0 rfl rfl 4 (by decide) (hU _ u_4_15) (fun _ h9 => h9) rfl dX4_setAside_27 ?_
    refine lv_bipush (v := (64 : Int32)) hx hb dX4_setAside_30 (by decide) ?_
    obtain ⟨g32, hM⟩ := rd_e hM
    refine va_iald hx hb hE.1 hP 1 0 rfl rfl g32 dX4_setAside_32 ?_
    refine lv_iload_n hx hb dX4_setAside_33 rfl (lv_at hl 1 rfl) ?_
    refine lv_ishr hx hb dX4_setAside_34 ?_
    refine lv_iconst (v := (1 : Int32)) hx hb dX4_setAside_35 (by decide) ?_
    refine lv_iand hx hb dX4_setAside_36 ?_
    cases hM
    exact rt _ _ _ _ _ hP hS dX4_setAside_37 rfl
  · have hM := ite_f (b2i_eq0 c4) hM
    refine lv_iconst (v := (-1 : Int32)) hx hb dX4_setAside_7 (by decide) ?_
    cases hM
    exact rt _ _ _ _ _ hP hS dX4_setAside_8 rfl
noncomputable def mX4_share_b53 (s_t_now : Nat → Int32) (s_t_worth : Nat → Int32) (s_t_paper : Nat → Int32) (v1 : Int32) (v2 : Bool) (v3 : Int32) : Nat → Int32 → Int32 → Option (Int32 × (Nat → Int32))
  | 0, _, _ => none
  | n + 1, v4, v5 => (if ((1 : Int32) <<< (v3 &&& 31)) ≤ v5 then (mX4_factorial v3).bind (fun x126 => (mX4_fraction v4 x126 v2).bind (fun x130 => some (x130, s_t_worth))) else (mX4_has v5 v1).bind (fun x64 => (if x64 = true then mX4_share_b53 s_t_now s_t_worth s_t_paper v1 v2 v3 n v4 (v5 + (1 : Int32)) else (mX4_ones v5).bind (fun x72 => (mX4_factorial x72).bind (fun x81 => (mX4_factorial ((v3 - (1 : Int32)) - x72)).bind (fun x90 => rd s_t_worth 256 (v5 ||| ((1 : Int32) <<< (v1 &&& 31))) (fun x104 => rd s_t_worth 256 v5 (fun x111 => mX4_share_b53 s_t_now s_t_worth s_t_paper v1 v2 v3 n (v4 + ((x81 * x90) * (x104 - x111))) (v5 + (1 : Int32))))))))))
noncomputable def mX4_share_b20 (s_t_now : Nat → Int32) (s_t_paper : Nat → Int32) (v1 : Int32) (v2 : Bool) (v3 : Int32) : Nat → Int32 → (Nat → Int32) → Option (Int32 × (Nat → Int32))
  | 0, _, _ => none
  | n + 1, v4, s_t_worth => (if ((1 : Int32) <<< (v3 &&& 31)) ≤ v4 then mX4_share_b53 s_t_now s_t_worth s_t_paper v1 v2 v3 FU (0 : Int32) (0 : Int32) else (mX4_rightBy s_t_now s_t_paper v4).bind (fun x37 => wr s_t_worth 256 v4 x37 (fun x40 => mX4_share_b20 s_t_now s_t_paper v1 v2 v3 n (v4 + (1 : Int32)) x40)))
noncomputable def mX4_share (s_t_now : Nat → Int32) (s_t_worth : Nat → Int32) (s_t_paper : Nat → Int32) (v1 : Int32) (v2 : Bool) : Option (Int32 × (Nat → Int32)) := (mX4_isGrant s_t_now v1).bind (fun x2 => (if x2 = true then rd s_t_now 66 (0 : Int32) (fun x15 => mX4_share_b20 s_t_now s_t_paper v1 v2 x15 FU (0 : Int32) s_t_worth) else some ((-1 : Int32), s_t_worth)))
set_option maxHeartbeats 4000000 in
set_option maxRecDepth 100000 in
theorem okX4_share {l : Launch} {dC : Nat → ClassId} {dI : Nat → Nat → Nat} {cI cC cZ : ClassId} (a_t a_t_text a_t_paper a_t_now a_t_trial a_t_diary a_t_kept a_t_isKept a_t_seenAt a_t_worth a_t_readPaper a_t_read : Nat) (s_t : Int32 × Int32 × Int32 × Int32 × Int32 × Int32 × Int32 × Int32 × Int32 × Int64) (s_t_now : Nat → Int32) (s_t_worth : Nat → Int32) (s_t_paper : Nat → Int32) (v1 : Int32) (v2 : Bool) (res : Int32 × (Nat → Int32)) (hM : mX4_share s_t_now s_t_worth s_t_paper v1 v2 = some res) : Mu l yX4_share cX4_share 7 (some .int) 6 145 (dC, dI) cI cC cZ [(a_t, .inr (4, [.ref a_t_text, .int s_t.1, .int s_t.2.1, .ref a_t_paper, .ref a_t_now, .ref a_t_trial, .ref a_t_diary, .int s_t.2.2.1, .int s_t.2.2.2.1, .ref a_t_kept, .ref a_t_isKept, .ref a_t_seenAt, .int s_t.2.2.2.2.1, .long s_t.2.2.2.2.2.2.2.2.2, .ref a_t_worth, .int s_t.2.2.2.2.2.1, .int s_t.2.2.2.2.2.2.1, .ref a_t_readPaper, .ref a_t_read, .int s_t.2.2.2.2.2.2.2.1, .int s_t.2.2.2.2.2.2.2.2.1])), (a_t_now, .inl (cI, 66, .inl s_t_now)), (a_t_worth, .inl (cI, 256, .inl s_t_worth)), (a_t_paper, .inl (cI, 24, .inl s_t_paper))] [(a_t, .inr (4, [.ref a_t_text, .int s_t.1, .int s_t.2.1, .ref a_t_paper, .ref a_t_now, .ref a_t_trial, .ref a_t_diary, .int s_t.2.2.1, .int s_t.2.2.2.1, .ref a_t_kept, .ref a_t_isKept, .ref a_t_seenAt, .int s_t.2.2.2.2.1, .long s_t.2.2.2.2.2.2.2.2.2, .ref a_t_worth, .int s_t.2.2.2.2.2.1, .int s_t.2.2.2.2.2.2.1, .ref a_t_readPaper, .ref a_t_read, .int s_t.2.2.2.2.2.2.2.1, .int s_t.2.2.2.2.2.2.2.2.1])), (a_t_now, .inl (cI, 66, .inl s_t_now)), (a_t_worth, .inl (cI, 256, .inl res.2)), (a_t_paper, .inl (cI, 24, .inl s_t_paper))] [.ref a_t, .int v1, .int (b2i v2)] (some (.int res.1)) := by
  refine Mu.ofI (by decide) (Nat.le_of_ble_eq_true rfl) [(0, .ref a_t), (1, .int v1), (2, .int (b2i v2))] rfl ?_
  intro p e s m args below meth c ls Q A hx hb hml hown hU hE hP hD hS hA rt hl
  have hown : s.vm.findClass RX4 = some m.cls := hown
  unfold mX4_share at hM
  refine lv_aload_n hx hb dX4_share_0 rfl (lv_at hl 0 rfl) ?_
  refine lv_iload_n hx hb dX4_share_1 rfl (lv_at hl 1 rfl) ?_
  obtain ⟨x2, h2, hM⟩ := bind_e hM
  refine rdV (As := [.int v1]) (rest := []) (st2 := [.int (b2i x2)]) ⟨hx, hb, hml, hown, hU⟩ hE (okX4_isGrant a_t a_t_text a_t_paper a_t_now a_t_trial a_t_diary a_t_kept a_t_isKept a_t_seenAt a_t_worth a_t_readPaper a_t_read s_t s_t_now v1 x2 h2) lk_X4_169 (hP.sub [0, 1] rfl) rfl rfl rfl hl.1 rfl (Nat.le_of_ble_eq_true rfl) ⟨Nat.le_of_ble_eq_true rfl, Nat.le_of_ble_eq_true rfl⟩ dX4_share_2 ⟨Nat.le_refl _, Nat.le_refl _⟩ rfl ?_
  refine lv_if_ne (tgt := 10) hx hb dX4_share_5 (by decide) (fun c5 => ?_) (fun c5 => ?_)
  · have hM := ite_t (b2i_ne0 c5) hM
    refine lv_aload_n hx hb dX4_share_10 rfl (lv_at hl 0 rfl) ?_
    refine va_get (D := (dC, dI)) (ci := 4) (v := .ref a_t_now) (C := RX4) (T := TX4) (N := 21) hx hb hU inlX4 hown hE.1 hP 0 rfl rfl 4 (by decide) (hU _ u_4_15) (fun _ h9 => h9) rfl dX4_share_11 ?_
    refine lv_iconst (v := (0 : Int32)) hx hb dX4_share_14 (by decide) ?_
    obtain ⟨g15, hM⟩ := rd_e hM
    refine va_iald hx hb hE.1 hP 1 0 rfl rfl g15 dX4_share_15 ?_
    refine lv_istore_n (lv' := [(3, .int (s_t_now (0 : Int32).toNatClampNeg)), (0, .ref a_t), (1, .int v1), (2, .int (b2i v2))]) hx hb dX4_share_16 rfl hl (by decide) rfl (fun ls hl => ?_)
    refine lv_iconst (v := (0 : Int32)) hx hb dX4_share_17 (by decide) ?_
    refine lv_istore (lv' := [(4, .int (0 : Int32)), (3, .int (s_t_now (0 : Int32).toNatClampNeg)), (0, .ref a_t), (1, .int v1), (2, .int (b2i v2))]) hx hb dX4_share_18 hl (by decide) rfl (fun ls hl => ?_)
    have w_20 : ∀ (n : Nat) (v4_20 : Int32) (s_t_worth_20 : Nat → Int32), mX4_share_b20 s_t_now s_t_paper v1 v2 (s_t_now (0 : Int32).toNatClampNeg) n v4_20 s_t_worth_20 = some res → ∀ (ls : Array Slot) (H : Heap) (locs : List Loc), va_P (dC, dI) vwCl [(a_t, .inr (4, [.ref a_t_text, .int s_t.1, .int s_t.2.1, .ref a_t_paper, .ref a_t_now, .ref a_t_trial, .ref a_t_diary, .int s_t.2.2.1, .int s_t.2.2.2.1, .ref a_t_kept, .ref a_t_isKept, .ref a_t_seenAt, .int s_t.2.2.2.2.1, .long s_t.2.2.2.2.2.2.2.2.2, .ref a_t_worth, .int s_t.2.2.2.2.2.1, .int s_t.2.2.2.2.2.2.1, .ref a_t_readPaper, .ref a_t_read, .int s_t.2.2.2.2.2.2.2.1, .int s_t.2.2.2.2.2.2.2.2.1])), (a_t_now, .inl (cI, 66, .inl s_t_now)), (a_t_worth, .inl (cI, 256, .inl s_t_worth_20)), (a_t_paper, .inl (cI, 24, .inl s_t_paper))] H → va_D A [(a_t, .inr (4, [.ref a_t_text, .int s_t.1, .int s_t.2.1, .ref a_t_paper, .ref a_t_now, .ref a_t_trial, .ref a_t_diary, .int s_t.2.2.1, .int s_t.2.2.2.1, .ref a_t_kept, .ref a_t_isKept, .ref a_t_seenAt, .int s_t.2.2.2.2.1, .long s_t.2.2.2.2.2.2.2.2.2, .ref a_t_worth, .int s_t.2.2.2.2.2.1, .int s_t.2.2.2.2.2.2.1, .ref a_t_readPaper, .ref a_t_read, .int s_t.2.2.2.2.2.2.2.1, .int s_t.2.2.2.2.2.2.2.2.1])), (a_t_now, .inl (cI, 66, .inl s_t_now)), (a_t_worth, .inl (cI, 256, .inl s_t_worth_20)), (a_t_paper, .inl (cI, 24, .inl s_t_paper))] → va_S A s.heap H locs → lv_has ls 7 [(0, .ref a_t), (1, .int v1), (2, .int (b2i v2)), (3, .int (s_t_now (0 : Int32).toNatClampNeg)), (4, .int v4_20)] → W p l e (RM 6 145) s m args below meth c H locs 0 0 Q (F0 m 20 ls []) := by
      intro n
      induction n with
      | zero =>
        intro v4_20 s_t_worth_20 hM
        rw [mX4_share_b20] at hM
        cases hM
      | succ n_20 ih_20 =>
        intro v4_20 s_t_worth_20 hM ls H locs hP hD hS hl
        rw [mX4_share_b20] at hM
        refine lv_iload hx hb dX4_share_20 (lv_at hl 4 rfl) ?_
        refine lv_iconst (v := (1 : Int32)) hx hb dX4_share_22 (by decide) ?_
        refine lv_iload_n hx hb dX4_share_23 rfl (lv_at hl 3 rfl) ?_
        refine lv_ishl hx hb dX4_share_24 ?_
        refine lv_icmp_ge (tgt := 47) hx hb dX4_share_25 (by decide) (fun c25 => ?_) (fun c25 => ?_)
        · have hM := ite_t c25 hM
          refine lv_iconst (v := (0 : Int32)) hx hb dX4_share_47 (by decide) ?_
          refine lv_istore (lv' := [(4, .int (0 : Int32)), (0, .ref a_t), (1, .int v1), (2, .int (b2i v2)), (3, .int (s_t_now (0 : Int32).toNatClampNeg))]) hx hb dX4_share_48 hl (by decide) rfl (fun ls hl => ?_)
          refine lv_iconst (v := (0 : Int32)) hx hb dX4_share_50 (by decide) ?_
          refine lv_istore (lv' := [(5, .int (0 : Int32)), (4, .int (0 : Int32)), (0, .ref a_t), (1, .int v1), (2, .int (b2i v2)), (3, .int (s_t_now (0 : Int32).toNatClampNeg))]) hx hb dX4_share_51 hl (by decide) rfl (fun ls hl => ?_)
          have w_53 : ∀ (n : Nat) (v4_53 : Int32) (v5_53 : Int32), mX4_share_b53 s_t_now s_t_worth_20 s_t_paper v1 v2 (s_t_now (0 : Int32).toNatClampNeg) n v4_53 v5_53 = some res → ∀ (ls : Array Slot) (H : Heap) (locs : List Loc), va_P (dC, dI) vwCl [(a_t, .inr (4, [.ref a_t_text, .int s_t.1, .int s_t.2.1, .ref a_t_paper, .ref a_t_now, .ref a_t_trial, .ref a_t_diary, .int s_t.2.2.1, .int s_t.2.2.2.1, .ref a_t_kept, .ref a_t_isKept, .ref a_t_seenAt, .int s_t.2.2.2.2.1, .long s_t.2.2.2.2.2.2.2.2.2, .ref a_t_worth, .int s_t.2.2.2.2.2.1, .int s_t.2.2.2.2.2.2.1, .ref a_t_readPaper, .ref a_t_read, .int s_t.2.2.2.2.2.2.2.1, .int s_t.2.2.2.2.2.2.2.2.1])), (a_t_now, .inl (cI, 66, .inl s_t_now)), (a_t_worth, .inl (cI, 256, .inl s_t_worth_20)), (a_t_paper, .inl (cI, 24, .inl s_t_paper))] H → va_D A [(a_t, .inr (4, [.ref a_t_text, .int s_t.1, .int s_t.2.1, .ref a_t_paper, .ref a_t_now, .ref a_t_trial, .ref a_t_diary, .int s_t.2.2.1, .int s_t.2.2.2.1, .ref a_t_kept, .ref a_t_isKept, .ref a_t_seenAt, .int s_t.2.2.2.2.1, .long s_t.2.2.2.2.2.2.2.2.2, .ref a_t_worth, .int s_t.2.2.2.2.2.1, .int s_t.2.2.2.2.2.2.1, .ref a_t_readPaper, .ref a_t_read, .int s_t.2.2.2.2.2.2.2.1, .int s_t.2.2.2.2.2.2.2.2.1])), (a_t_now, .inl (cI, 66, .inl s_t_now)), (a_t_worth, .inl (cI, 256, .inl s_t_worth_20)), (a_t_paper, .inl (cI, 24, .inl s_t_paper))] → va_S A s.heap H locs → lv_has ls 7 [(0, .ref a_t), (1, .int v1), (2, .int (b2i v2)), (3, .int (s_t_now (0 : Int32).toNatClampNeg)), (4, .int v4_53), (5, .int v5_53)] → W p l e (RM 6 145) s m args below meth c H locs 0 0 Q (F0 m 53 ls []) := by
            intro n
            induction n with
            | zero =>
              intro v4_53 v5_53 hM
              rw [mX4_share_b53] at hM
              cases hM
            | succ n_53 ih_53 =>
              intro v4_53 v5_53 hM ls H locs hP hD hS hl
              rw [mX4_share_b53] at hM
              refine lv_iload hx hb dX4_share_53 (lv_at hl 5 rfl) ?_
              refine lv_iconst (v := (1 : Int32)) hx hb dX4_share_55 (by decide) ?_
              refine lv_iload_n hx hb dX4_share_56 rfl (lv_at hl 3 rfl) ?_
              refine lv_ishl hx hb dX4_share_57 ?_
              refine lv_icmp_ge (tgt := 123) hx hb dX4_share_58 (by decide) (fun c58 => ?_) (fun c58 => ?_)
              · have hM := ite_t c58 hM
                refine lv_iload hx hb dX4_share_123 (lv_at hl 4 rfl) ?_
                refine lv_iload_n hx hb dX4_share_125 rfl (lv_at hl 3 rfl) ?_
                obtain ⟨x126, h126, hM⟩ := bind_e hM
                refine rdS (As := [.int (s_t_now (0 : Int32).toNatClampNeg)]) (rest := [.int v4_53]) (st2 := [.int x126, .int v4_53]) ⟨hx, hb, hml, hown, hU⟩ hE (okX4_factorial (s_t_now (0 : Int32).toNatClampNeg) x126 h126) lk_X4_222 (hP.sub [] rfl) rfl hl.1 rfl (Nat.le_of_ble_eq_true rfl) ⟨Nat.le_of_ble_eq_true rfl, Nat.le_of_ble_eq_true rfl⟩ dX4_share_126 ⟨Nat.le_refl _, Nat.le_refl _⟩ rfl ?_
                refine lv_iload_n hx hb dX4_share_129 rfl (lv_at hl 2 rfl) ?_
                obtain ⟨x130, h130, hM⟩ := bind_e hM
                refine rdS (As := [.int v4_53, .int x126, .int (b2i v2)]) (rest := []) (st2 := [.int x130]) ⟨hx, hb, hml, hown, hU⟩ hE (okX4_fraction v4_53 x126 v2 x130 h130) lk_X4_225 (hP.sub [] rfl) rfl hl.1 rfl (Nat.le_of_ble_eq_true rfl) ⟨Nat.le_of_ble_eq_true rfl, Nat.le_of_ble_eq_true rfl⟩ dX4_share_130 ⟨Nat.le_refl _, Nat.le_refl _⟩ rfl ?_
                cases hM
                exact rt _ _ _ _ _ hP hS dX4_share_133 rfl
              · have hM := ite_f c58 hM
                refine lv_iload hx hb dX4_share_61 (lv_at hl 5 rfl) ?_
                refine lv_iload_n hx hb dX4_share_63 rfl (lv_at hl 1 rfl) ?_
                obtain ⟨x64, h64, hM⟩ := bind_e hM
                refine rdS (As := [.int v5_53, .int v1]) (rest := []) (st2 := [.int (b2i x64)]) ⟨hx, hb, hml, hown, hU⟩ hE (okX4_has v5_53 v1 x64 h64) lk_X4_120 (hP.sub [] rfl) rfl hl.1 rfl (Nat.le_of_ble_eq_true rfl) ⟨Nat.le_of_ble_eq_true rfl, Nat.le_of_ble_eq_true rfl⟩ dX4_share_64 ⟨Nat.le_refl _, Nat.le_refl _⟩ rfl ?_
                refine lv_if_ne (tgt := 117) hx hb dX4_share_67 (by decide) (fun c67 => ?_) (fun c67 => ?_)
                · have hM := ite_t (b2i_ne0 c67) hM
                  refine lv_iinc (v := (v5_53 + (1 : Int32))) (lv' := [(5, .int (v5_53 + (1 : Int32))), (0, .ref a_t), (1, .int v1), (2, .int (b2i v2)), (3, .int (s_t_now (0 : Int32).toNatClampNeg)), (4, .int v4_53)]) hx hb dX4_share_117 hl (k := 5) rfl rfl (by decide) rfl (fun ls hl => ?_)
                  refine lv_goto (tgt := 53) hx hb dX4_share_120 (by decide) ?_
                  exact ih_53 v4_53 (v5_53 + (1 : Int32)) hM ls _ _ hP hD hS (lv_sub hl [1, 2, 3, 4, 5, 0] rfl)
                · have hM := ite_f (b2i_eq0 c67) hM
                  refine lv_iload hx hb dX4_share_70 (lv_at hl 5 rfl) ?_
                  obtain ⟨x72, h72, hM⟩ := bind_e hM
                  refine rdS (As := [.int v5_53]) (rest := []) (st2 := [.int x72]) ⟨hx, hb, hml, hown, hU⟩ hE (okX4_ones v5_53 x72 h72) lk_X4_219 (hP.sub [] rfl) rfl hl.1 rfl (Nat.le_of_ble_eq_true rfl) ⟨Nat.le_of_ble_eq_true rfl, Nat.le_of_ble_eq_true rfl⟩ dX4_share_72 ⟨Nat.le_refl _, Nat.le_refl _⟩ rfl ?_
                  refine lv_istore (lv' := [(6, .int x72), (0, .ref a_t), (1, .int v1), (2, .int (b2i v2)), (3, .int (s_t_now (0 : Int32).toNatClampNeg)), (4, .int v4_53), (5, .int v5_53)]) hx hb dX4_share_75 hl (by decide) rfl (fun ls hl => ?_)
                  refine lv_iload hx hb dX4_share_77 (lv_at hl 5 rfl) ?_
                  refine lv_iload hx hb dX4_share_79 (lv_at hl 0 rfl) ?_
                  obtain ⟨x81, h81, hM⟩ := bind_e hM
                  refine rdS (As := [.int x72]) (rest := [.int v4_53]) (st2 := [.int x81, .int v4_53]) ⟨hx, hb, hml, hown, hU⟩ hE (okX4_factorial x72 x81 h81) lk_X4_222 (hP.sub [] rfl) rfl hl.1 rfl (Nat.le_of_ble_eq_true rfl) ⟨Nat.le_of_ble_eq_true rfl, Nat.le_of_ble_eq_true rfl⟩ dX4_share_81 ⟨Nat.le_refl _, Nat.le_refl _⟩ rfl ?_
                  refine lv_iload_n hx hb dX4_share_84 rfl (lv_at hl 4 rfl) ?_
                  refine lv_iconst (v := (1 : Int32)) hx hb dX4_share_85 (by decide) ?_
                  refine lv_isub hx hb dX4_share_86 ?_
                  refine lv_iload hx hb dX4_share_87 (lv_at hl 0 rfl) ?_
                  refine lv_isub hx hb dX4_share_89 ?_
                  obtain ⟨x90, h90, hM⟩ := bind_e hM
                  refine rdS (As := [.int (((s_t_now (0 : Int32).toNatClampNeg) - (1 : Int32)) - x72)]) (rest := [.int x81, .int v4_53]) (st2 := [.int x90, .int x81, .int v4_53]) ⟨hx, hb, hml, hown, hU⟩ hE (okX4_factorial (((s_t_now (0 : Int32).toNatClampNeg) - (1 : Int32)) - x72) x90 h90) lk_X4_222 (hP.sub [] rfl) rfl hl.1 rfl (Nat.le_of_ble_eq_true rfl) ⟨Nat.le_of_ble_eq_true rfl, Nat.le_of_ble_eq_true rfl⟩ dX4_share_90 ⟨Nat.le_refl _, Nat.le_refl _⟩ rfl ?_
                  refine lv_imul hx hb dX4_share_93 ?_
                  refine lv_aload_n hx hb dX4_share_94 rfl (lv_at hl 1 rfl) ?_
                  refine va_get (D := (dC, dI)) (ci := 4) (v := .ref a_t_worth) (C := RX4) (T := TX4) (N := 21) hx hb hU inlX4 hown hE.1 hP 0 rfl rfl 14 (by decide) (hU _ u_4_22) (fun _ h9 => h9) rfl dX4_share_95 ?_
                  refine lv_iload hx hb dX4_share_98 (lv_at hl 6 rfl) ?_
                  refine lv_iconst (v := (1 : Int32)) hx hb dX4_share_100 (by decide) ?_
                  refine lv_iload_n hx hb dX4_share_101 rfl (lv_at hl 2 rfl) ?_
                  refine lv_ishl hx hb dX4_share_102 ?_
                  refine lv_ior hx hb dX4_share_103 ?_
                  obtain ⟨g104, hM⟩ := rd_e hM
                  refine va_iald hx hb hE.1 hP 2 0 rfl rfl g104 dX4_share_104 ?_
                  refine lv_aload_n hx hb dX4_share_105 rfl (lv_at hl 1 rfl) ?_
                  refine va_get (D := (dC, dI)) (ci := 4) (v := .ref a_t_worth) (C := RX4) (T := TX4) (N := 21) hx hb hU inlX4 hown hE.1 hP 0 rfl rfl 14 (by decide) (hU _ u_4_22) (fun _ h9 => h9) rfl dX4_share_106 ?_
                  refine lv_iload hx hb dX4_share_109 (lv_at hl 6 rfl) ?_
                  obtain ⟨g111, hM⟩ := rd_e hM
                  refine va_iald hx hb hE.1 hP 2 0 rfl rfl g111 dX4_share_111 ?_
                  refine lv_isub hx hb dX4_share_112 ?_
                  refine lv_imul hx hb dX4_share_113 ?_
                  refine lv_iadd hx hb dX4_share_114 ?_
                  refine lv_istore (lv' := [(4, .int (v4_53 + ((x81 * x90) * ((s_t_worth_20 (v5_53 ||| ((1 : Int32) <<< (v1 &&& 31))).toNatClampNeg) - (s_t_worth_20 v5_53.toNatClampNeg))))), (6, .int x72), (0, .ref a_t), (1, .int v1), (2, .int (b2i v2)), (3, .int (s_t_now (0 : Int32).toNatClampNeg)), (5, .int v5_53)]) hx hb dX4_share_115 hl (by decide) rfl (fun ls hl => ?_)
                  refine lv_iinc (v := (v5_53 + (1 : Int32))) (lv' := [(5, .int (v5_53 + (1 : Int32))), (4, .int (v4_53 + ((x81 * x90) * ((s_t_worth_20 (v5_53 ||| ((1 : Int32) <<< (v1 &&& 31))).toNatClampNeg) - (s_t_worth_20 v5_53.toNatClampNeg))))), (6, .int x72), (0, .ref a_t), (1, .int v1), (2, .int (b2i v2)), (3, .int (s_t_now (0 : Int32).toNatClampNeg))]) hx hb dX4_share_117 hl (k := 6) rfl rfl (by decide) rfl (fun ls hl => ?_)
                  refine lv_goto (tgt := 53) hx hb dX4_share_120 (by decide) ?_
                  exact ih_53 (v4_53 + ((x81 * x90) * ((s_t_worth_20 (v5_53 ||| ((1 : Int32) <<< (v1 &&& 31))).toNatClampNeg) - (s_t_worth_20 v5_53.toNatClampNeg)))) (v5_53 + (1 : Int32)) hM ls _ _ hP hD hS (lv_sub hl [3, 4, 5, 6, 1, 0] rfl)
          exact w_53 FU (0 : Int32) (0 : Int32) hM ls _ _ hP hD hS (lv_sub hl [2, 3, 4, 5, 1, 0] rfl)
        · have hM := ite_f c25 hM
          refine lv_aload_n hx hb dX4_share_28 rfl (lv_at hl 0 rfl) ?_
          refine va_get (D := (dC, dI)) (ci := 4) (v := .ref a_t_worth) (C := RX4) (T := TX4) (N := 21) hx hb hU inlX4 hown hE.1 hP 0 rfl rfl 14 (by decide) (hU _ u_4_22) (fun _ h9 => h9) rfl dX4_share_29 ?_
          refine lv_iload hx hb dX4_share_32 (lv_at hl 4 rfl) ?_
          refine lv_aload_n hx hb dX4_share_34 rfl (lv_at hl 0 rfl) ?_
          refine lv_iload hx hb dX4_share_35 (lv_at hl 4 rfl) ?_
          obtain ⟨x37, h37, hM⟩ := bind_e hM
          refine rdV (As := [.int v4_20]) (rest := [.int v4_20, .ref a_t_worth]) (st2 := [.int x37, .int v4_20, .ref a_t_worth]) ⟨hx, hb, hml, hown, hU⟩ hE (okX4_rightBy a_t a_t_text a_t_paper a_t_now a_t_trial a_t_diary a_t_kept a_t_isKept a_t_seenAt a_t_worth a_t_readPaper a_t_read s_t s_t_now s_t_paper v4_20 x37 h37) lk_X4_216 (hP.sub [0, 1, 3] rfl) rfl rfl rfl hl.1 rfl (Nat.le_of_ble_eq_true rfl) ⟨Nat.le_of_ble_eq_true rfl, Nat.le_of_ble_eq_true rfl⟩ dX4_share_37 ⟨Nat.le_refl _, Nat.le_refl _⟩ rfl ?_
          obtain ⟨g40, hM⟩ := wr_e hM
          refine va_iast hx hb hE.1 hP hD hS 2 0 rfl rfl g40 dX4_share_40 (fun H locs hP hD hS => ?_)
          have hP : va_P (dC, dI) vwCl [(a_t, .inr (4, [.ref a_t_text, .int s_t.1, .int s_t.2.1, .ref a_t_paper, .ref a_t_now, .ref a_t_trial, .ref a_t_diary, .int s_t.2.2.1, .int s_t.2.2.2.1, .ref a_t_kept, .ref a_t_isKept, .ref a_t_seenAt, .int s_t.2.2.2.2.1, .long s_t.2.2.2.2.2.2.2.2.2, .ref a_t_worth, .int s_t.2.2.2.2.2.1, .int s_t.2.2.2.2.2.2.1, .ref a_t_readPaper, .ref a_t_read, .int s_t.2.2.2.2.2.2.2.1, .int s_t.2.2.2.2.2.2.2.2.1])), (a_t_now, .inl (cI, 66, .inl s_t_now)), (a_t_worth, .inl (cI, 256, .inl (upd s_t_worth_20 v4_20.toNatClampNeg x37))), (a_t_paper, .inl (cI, 24, .inl s_t_paper))] H := hP
          have hD : va_D A [(a_t, .inr (4, [.ref a_t_text, .int s_t.1, .int s_t.2.1, .ref a_t_paper, .ref a_t_now, .ref a_t_trial, .ref a_t_diary, .int s_t.2.2.1, .int s_t.2.2.2.1, .ref a_t_kept, .ref a_t_isKept, .ref a_t_seenAt, .int s_t.2.2.2.2.1, .long s_t.2.2.2.2.2.2.2.2.2, .ref a_t_worth, .int s_t.2.2.2.2.2.1, .int s_t.2.2.2.2.2.2.1, .ref a_t_readPaper, .ref a_t_read, .int s_t.2.2.2.2.2.2.2.1, .int s_t.2.2.2.2.2.2.2.2.1])), (a_t_now, .inl (cI, 66, .inl s_t_now)), (a_t_worth, .inl (cI, 256, .inl (upd s_t_worth_20 v4_20.toNatClampNeg x37))), (a_t_paper, .inl (cI, 24, .inl s_t_paper))] := hD
          refine lv_iinc (v := (v4_20 + (1 : Int32))) (lv' := [(4, .int (v4_20 + (1 : Int32))), (0, .ref a_t), (1, .int v1), (2, .int (b2i v2)), (3, .int (s_t_now (0 : Int32).toNatClampNeg))]) hx hb dX4_share_41 hl (k := 4) rfl rfl (by decide) rfl (fun ls hl => ?_)
          refine lv_goto (tgt := 20) hx hb dX4_share_44 (by decide) ?_
          exact ih_20 (v4_20 + (1 : Int32)) (upd s_t_worth_20 v4_20.toNatClampNeg x37) hM ls _ _ hP hD hS (lv_sub hl [1, 2, 3, 4, 0] rfl)
    exact w_20 FU (0 : Int32) s_t_worth hM ls _ _ hP hD hS (lv_sub hl [2, 3, 4, 1, 0] rfl)
  · have hM := ite_f (b2i_eq0 c5) hM
    refine lv_iconst (v := (-1 : Int32)) hx hb dX4_share_8 (by decide) ?_
    cases hM
    exact rt _ _ _ _ _ hP hS dX4_share_9 rfl
noncomputable def mX4_state (s_t_now : Nat → Int32) (s_t_paper : Nat → Int32) (v1 : Int32) (v2 : Int32) (v3 : Int32) : Option (Int32) := (mX4_isRange v1 v2).bind (fun x2 => (if x2 = true then (mX4_isOrigin v3).bind (fun x12 => (if x12 = true then (mX4_stateOf s_t_now s_t_paper v1 v2 v3).bind (fun x26 => some (x26)) else some ((-1 : Int32)))) else some ((-2 : Int32))))
set_option maxHeartbeats 4000000 in
set_option maxRecDepth 100000 in
theorem okX4_state {l : Launch} {dC : Nat → ClassId} {dI : Nat → Nat → Nat} {cI cC cZ : ClassId} (a_t a_t_text a_t_paper a_t_now a_t_trial a_t_diary a_t_kept a_t_isKept a_t_seenAt a_t_worth a_t_readPaper a_t_read : Nat) (s_t : Int32 × Int32 × Int32 × Int32 × Int32 × Int32 × Int32 × Int32 × Int32 × Int64) (s_t_now : Nat → Int32) (s_t_paper : Nat → Int32) (v1 : Int32) (v2 : Int32) (v3 : Int32) (res : Int32) (hM : mX4_state s_t_now s_t_paper v1 v2 v3 = some res) : Rd l yX4_state cX4_state 4 (some .int) 6 145 (dC, dI) cI cC cZ [(a_t, .inr (4, [.ref a_t_text, .int s_t.1, .int s_t.2.1, .ref a_t_paper, .ref a_t_now, .ref a_t_trial, .ref a_t_diary, .int s_t.2.2.1, .int s_t.2.2.2.1, .ref a_t_kept, .ref a_t_isKept, .ref a_t_seenAt, .int s_t.2.2.2.2.1, .long s_t.2.2.2.2.2.2.2.2.2, .ref a_t_worth, .int s_t.2.2.2.2.2.1, .int s_t.2.2.2.2.2.2.1, .ref a_t_readPaper, .ref a_t_read, .int s_t.2.2.2.2.2.2.2.1, .int s_t.2.2.2.2.2.2.2.2.1])), (a_t_now, .inl (cI, 66, .inl s_t_now)), (a_t_paper, .inl (cI, 24, .inl s_t_paper))] [.ref a_t, .int v1, .int v2, .int v3] (some (.int res)) := by
  refine Rd.ofI (by decide) (Nat.le_of_ble_eq_true rfl) [(0, .ref a_t), (1, .int v1), (2, .int v2), (3, .int v3)] rfl ?_
  intro p e s m args below meth c ls Q hx hb hml hown hU hE hP rt hl
  have hown : s.vm.findClass RX4 = some m.cls := hown
  unfold mX4_state at hM
  refine lv_iload_n hx hb dX4_state_0 rfl (lv_at hl 1 rfl) ?_
  refine lv_iload_n hx hb dX4_state_1 rfl (lv_at hl 2 rfl) ?_
  obtain ⟨x2, h2, hM⟩ := bind_e hM
  refine rdS (As := [.int v1, .int v2]) (rest := []) (st2 := [.int (b2i x2)]) ⟨hx, hb, hml, hown, hU⟩ hE (okX4_isRange v1 v2 x2 h2) lk_X4_75 (hP.sub [] rfl) rfl hl.1 rfl (Nat.le_of_ble_eq_true rfl) ⟨Nat.le_of_ble_eq_true rfl, Nat.le_of_ble_eq_true rfl⟩ dX4_state_2 ⟨Nat.le_refl _, Nat.le_refl _⟩ rfl ?_
  refine lv_if_ne (tgt := 11) hx hb dX4_state_5 (by decide) (fun c5 => ?_) (fun c5 => ?_)
  · have hM := ite_t (b2i_ne0 c5) hM
    refine lv_iload_n hx hb dX4_state_11 rfl (lv_at hl 3 rfl) ?_
    obtain ⟨x12, h12, hM⟩ := bind_e hM
    refine rdS (As := [.int v3]) (rest := []) (st2 := [.int (b2i x12)]) ⟨hx, hb, hml, hown, hU⟩ hE (okX4_isOrigin v3 x12 h12) lk_X4_185 (hP.sub [] rfl) rfl hl.1 rfl (Nat.le_of_ble_eq_true rfl) ⟨Nat.le_of_ble_eq_true rfl, Nat.le_of_ble_eq_true rfl⟩ dX4_state_12 ⟨Nat.le_refl _, Nat.le_refl _⟩ rfl ?_
    refine lv_if_eq (tgt := 32) hx hb dX4_state_15 (by decide) (fun c15 => ?_) (fun c15 => ?_)
    · have hM := ite_f (b2i_eq0 c15) hM
      refine lv_iconst (v := (-1 : Int32)) hx hb dX4_state_32 (by decide) ?_
      cases hM
      exact rt _ _ _ dX4_state_33 rfl
    · have hM := ite_t (b2i_ne0 c15) hM
      refine lv_aload_n hx hb dX4_state_18 rfl (lv_at hl 0 rfl) ?_
      refine lv_aload_n hx hb dX4_state_19 rfl (lv_at hl 0 rfl) ?_
      refine va_get (D := (dC, dI)) (ci := 4) (v := .ref a_t_now) (C := RX4) (T := TX4) (N := 21) hx hb hU inlX4 hown hE.1 hP 0 rfl rfl 4 (by decide) (hU _ u_4_15) (fun _ h9 => h9) rfl dX4_state_20 ?_
      refine lv_iload_n hx hb dX4_state_23 rfl (lv_at hl 1 rfl) ?_
      refine lv_iload_n hx hb dX4_state_24 rfl (lv_at hl 2 rfl) ?_
      refine lv_iload_n hx hb dX4_state_25 rfl (lv_at hl 3 rfl) ?_
      obtain ⟨x26, h26, hM⟩ := bind_e hM
      refine rdV (As := [.ref a_t_now, .int v1, .int v2, .int v3]) (rest := []) (st2 := [.int x26]) ⟨hx, hb, hml, hown, hU⟩ hE (okX4_stateOf a_t a_t_text a_t_paper a_t_now a_t_trial a_t_diary a_t_kept a_t_isKept a_t_seenAt a_t_worth a_t_readPaper a_t_read a_t_now s_t s_t_now s_t_paper v1 v2 v3 x26 h26) lk_X4_138 (hP.sub [0, 1, 2] rfl) rfl rfl rfl hl.1 rfl (Nat.le_of_ble_eq_true rfl) ⟨Nat.le_of_ble_eq_true rfl, Nat.le_of_ble_eq_true rfl⟩ dX4_state_26 ⟨Nat.le_refl _, Nat.le_refl _⟩ rfl ?_
      refine lv_goto (tgt := 33) hx hb dX4_state_29 (by decide) ?_
      cases hM
      exact rt _ _ _ dX4_state_33 rfl
  · have hM := ite_f (b2i_eq0 c5) hM
    refine lv_bipush (v := (-2 : Int32)) hx hb dX4_state_8 (by decide) ?_
    cases hM
    exact rt _ _ _ dX4_state_10 rfl
noncomputable def mX4_takeGrant_b13  : Nat → Int32 → (Nat → Int32) → Option (Nat → Int32)
  | 0, _, _ => none
  | n + 1, v2, s_q0 => rd s_q0 66 (0 : Int32) (fun x18 => (if ((1 : Int32) + ((5 : Int32) * x18)) ≤ v2 then some (s_q0) else rd s_q0 66 (v2 + (5 : Int32)) (fun x30 => wr s_q0 66 v2 x30 (fun x31 => mX4_takeGrant_b13 n (v2 + (1 : Int32)) x31))))
noncomputable def mX4_takeGrant (s_q0 : Nat → Int32) (v1 : Int32) : Option (Nat → Int32) := rd s_q0 66 (0 : Int32) (fun x3 => wr s_q0 66 (0 : Int32) (x3 - (1 : Int32)) (fun x6 => mX4_takeGrant_b13 FU ((1 : Int32) + ((5 : Int32) * v1)) x6))
set_option maxHeartbeats 4000000 in
set_option maxRecDepth 100000 in
theorem okX4_takeGrant {l : Launch} {dC : Nat → ClassId} {dI : Nat → Nat → Nat} {cI cC cZ : ClassId} (a_q0 : Nat) (s_q0 : Nat → Int32) (v1 : Int32) (res : Nat → Int32) (hM : mX4_takeGrant s_q0 v1 = some res) : Mu l yX4_takeGrant cX4_takeGrant 3 none 0 0 (dC, dI) cI cC cZ [(a_q0, .inl (cI, 66, .inl s_q0))] [(a_q0, .inl (cI, 66, .inl res))] [.ref a_q0, .int v1] none := by
  refine Mu.ofV (by decide) (Nat.le_of_ble_eq_true rfl) [(0, .ref a_q0), (1, .int v1)] rfl ?_
  intro p e s m args below meth c ls Q A hx hb hml hown hU hE hP hD hS hA rt hl
  have hown : s.vm.findClass RX4 = some m.cls := hown
  unfold mX4_takeGrant at hM
  refine lv_aload_n hx hb dX4_takeGrant_0 rfl (lv_at hl 0 rfl) ?_
  refine lv_iconst (v := (0 : Int32)) hx hb dX4_takeGrant_1 (by decide) ?_
  refine lv_dup2_11 hx hb dX4_takeGrant_2 rfl rfl ?_
  obtain ⟨g3, hM⟩ := rd_e hM
  refine va_iald hx hb hE.1 hP 0 0 rfl rfl g3 dX4_takeGrant_3 ?_
  refine lv_iconst (v := (1 : Int32)) hx hb dX4_takeGrant_4 (by decide) ?_
  refine lv_isub hx hb dX4_takeGrant_5 ?_
  obtain ⟨g6, hM⟩ := wr_e hM
  refine va_iast hx hb hE.1 hP hD hS 0 0 rfl rfl g6 dX4_takeGrant_6 (fun H locs hP hD hS => ?_)
  have hP : va_P (dC, dI) vwCl [(a_q0, .inl (cI, 66, .inl (upd s_q0 (0 : Int32).toNatClampNeg ((s_q0 (0 : Int32).toNatClampNeg) - (1 : Int32)))))] H := hP
  have hD : va_D A [(a_q0, .inl (cI, 66, .inl (upd s_q0 (0 : Int32).toNatClampNeg ((s_q0 (0 : Int32).toNatClampNeg) - (1 : Int32)))))] := hD
  refine lv_iconst (v := (1 : Int32)) hx hb dX4_takeGrant_7 (by decide) ?_
  refine lv_iconst (v := (5 : Int32)) hx hb dX4_takeGrant_8 (by decide) ?_
  refine lv_iload_n hx hb dX4_takeGrant_9 rfl (lv_at hl 1 rfl) ?_
  refine lv_imul hx hb dX4_takeGrant_10 ?_
  refine lv_iadd hx hb dX4_takeGrant_11 ?_
  refine lv_istore_n (lv' := [(2, .int ((1 : Int32) + ((5 : Int32) * v1))), (0, .ref a_q0), (1, .int v1)]) hx hb dX4_takeGrant_12 rfl hl (by decide) rfl (fun ls hl => ?_)
  have w_13 : ∀ (n : Nat) (v2_13 : Int32) (s_q0_13 : Nat → Int32), mX4_takeGrant_b13 n v2_13 s_q0_13 = some res → ∀ (ls : Array Slot) (H : Heap) (locs : List Loc), va_P (dC, dI) vwCl [(a_q0, .inl (cI, 66, .inl s_q0_13))] H → va_D A [(a_q0, .inl (cI, 66, .inl s_q0_13))] → va_S A s.heap H locs → lv_has ls 3 [(0, .ref a_q0), (2, .int v2_13)] → W p l e (RM 0 0) s m args below meth c H locs 0 0 Q (F0 m 13 ls []) := by
    intro n
    induction n with
    | zero =>
      intro v2_13 s_q0_13 hM
      rw [mX4_takeGrant_b13] at hM
      cases hM
    | succ n_13 ih_13 =>
      intro v2_13 s_q0_13 hM ls H locs hP hD hS hl
      rw [mX4_takeGrant_b13] at hM
      refine lv_iload_n hx hb dX4_takeGrant_13 rfl (lv_at hl 1 rfl) ?_
      refine lv_iconst (v := (1 : Int32)) hx hb dX4_takeGrant_14 (by decide) ?_
      refine lv_iconst (v := (5 : Int32)) hx hb dX4_takeGrant_15 (by decide) ?_
      refine lv_aload_n hx hb dX4_takeGrant_16 rfl (lv_at hl 0 rfl) ?_
      refine lv_iconst (v := (0 : Int32)) hx hb dX4_takeGrant_17 (by decide) ?_
      obtain ⟨g18, hM⟩ := rd_e hM
      refine va_iald hx hb hE.1 hP 0 0 rfl rfl g18 dX4_takeGrant_18 ?_
      refine lv_imul hx hb dX4_takeGrant_19 ?_
      refine lv_iadd hx hb dX4_takeGrant_20 ?_
      refine lv_icmp_ge (tgt := 38) hx hb dX4_takeGrant_21 (by decide) (fun c21 => ?_) (fun c21 => ?_)
      · have hM := ite_t c21 hM
        cases hM
        exact rt _ _ _ _ hP hS dX4_takeGrant_38 rfl
      · have hM := ite_f c21 hM
        refine lv_aload_n hx hb dX4_takeGrant_24 rfl (lv_at hl 0 rfl) ?_
        refine lv_iload_n hx hb dX4_takeGrant_25 rfl (lv_at hl 1 rfl) ?_
        refine lv_aload_n hx hb dX4_takeGrant_26 rfl (lv_at hl 0 rfl) ?_
        refine lv_iload_n hx hb dX4_takeGrant_27 rfl (lv_at hl 1 rfl) ?_
        refine lv_iconst (v := (5 : Int32)) hx hb dX4_takeGrant_28 (by decide) ?_
        refine lv_iadd hx hb dX4_takeGrant_29 ?_
        obtain ⟨g30, hM⟩ := rd_e hM
        refine va_iald hx hb hE.1 hP 0 0 rfl rfl g30 dX4_takeGrant_30 ?_
        obtain ⟨g31, hM⟩ := wr_e hM
        refine va_iast hx hb hE.1 hP hD hS 0 0 rfl rfl g31 dX4_takeGrant_31 (fun H locs hP hD hS => ?_)
        have hP : va_P (dC, dI) vwCl [(a_q0, .inl (cI, 66, .inl (upd s_q0_13 v2_13.toNatClampNeg (s_q0_13 (v2_13 + (5 : Int32)).toNatClampNeg))))] H := hP
        have hD : va_D A [(a_q0, .inl (cI, 66, .inl (upd s_q0_13 v2_13.toNatClampNeg (s_q0_13 (v2_13 + (5 : Int32)).toNatClampNeg))))] := hD
        refine lv_iinc (v := (v2_13 + (1 : Int32))) (lv' := [(2, .int (v2_13 + (1 : Int32))), (0, .ref a_q0)]) hx hb dX4_takeGrant_32 hl (k := 1) rfl rfl (by decide) rfl (fun ls hl => ?_)
        refine lv_goto (tgt := 13) hx hb dX4_takeGrant_35 (by decide) ?_
        exact ih_13 (v2_13 + (1 : Int32)) (upd s_q0_13 v2_13.toNatClampNeg (s_q0_13 (v2_13 + (5 : Int32)).toNatClampNeg)) hM ls _ _ hP hD hS (lv_sub hl [1, 0] rfl)
  exact w_13 FU ((1 : Int32) + ((5 : Int32) * v1)) (upd s_q0 (0 : Int32).toNatClampNeg ((s_q0 (0 : Int32).toNatClampNeg) - (1 : Int32))) hM ls _ _ hP hD hS (lv_sub hl [1, 0] rfl)
noncomputable def mX4_tear (s_t : Int32 × Int32 × Int32 × Int32 × Int32 × Int32 × Int32 × Int32 × Int32 × Int64) (s_t_now : Nat → Int32) (s_t_diary : Nat → Int32) (v1 : Int32) : Option (Int32 × (Int32 × Int32 × Int32 × Int32 × Int32 × Int32 × Int32 × Int32 × Int32 × Int64) × (Nat → Int32) × (Nat → Int32)) := (mX4_isGrant s_t_now v1).bind (fun x2 => (if x2 = true then (mX4_note s_t s_t_now s_t_diary).bind (fun x11 => (mX4_takeGrant s_t_now v1).bind (fun x19 => rd x19 66 (0 : Int32) (fun x27 => some (x27, x11.1, x19, x11.2)))) else some ((-1 : Int32), s_t, s_t_now, s_t_diary)))
set_option maxHeartbeats 4000000 in
set_option maxRecDepth 100000 in
theorem okX4_tear {l : Launch} {dC : Nat → ClassId} {dI : Nat → Nat → Nat} {cI cC cZ : ClassId} (a_t a_t_text a_t_paper a_t_now a_t_trial a_t_diary a_t_kept a_t_isKept a_t_seenAt a_t_worth a_t_readPaper a_t_read : Nat) (s_t : Int32 × Int32 × Int32 × Int32 × Int32 × Int32 × Int32 × Int32 × Int32 × Int64) (s_t_now : Nat → Int32) (s_t_diary : Nat → Int32) (v1 : Int32) (res : Int32 × (Int32 × Int32 × Int32 × Int32 × Int32 × Int32 × Int32 × Int32 × Int32 × Int64) × (Nat → Int32) × (Nat → Int32)) (hM : mX4_tear s_t s_t_now s_t_diary v1 = some res) : Mu l yX4_tear cX4_tear 2 (some .int) 2 46 (dC, dI) cI cC cZ [(a_t, .inr (4, [.ref a_t_text, .int s_t.1, .int s_t.2.1, .ref a_t_paper, .ref a_t_now, .ref a_t_trial, .ref a_t_diary, .int s_t.2.2.1, .int s_t.2.2.2.1, .ref a_t_kept, .ref a_t_isKept, .ref a_t_seenAt, .int s_t.2.2.2.2.1, .long s_t.2.2.2.2.2.2.2.2.2, .ref a_t_worth, .int s_t.2.2.2.2.2.1, .int s_t.2.2.2.2.2.2.1, .ref a_t_readPaper, .ref a_t_read, .int s_t.2.2.2.2.2.2.2.1, .int s_t.2.2.2.2.2.2.2.2.1])), (a_t_now, .inl (cI, 66, .inl s_t_now)), (a_t_diary, .inl (cI, 924, .inl s_t_diary))] [(a_t, .inr (4, [.ref a_t_text, .int res.2.1.1, .int res.2.1.2.1, .ref a_t_paper, .ref a_t_now, .ref a_t_trial, .ref a_t_diary, .int res.2.1.2.2.1, .int res.2.1.2.2.2.1, .ref a_t_kept, .ref a_t_isKept, .ref a_t_seenAt, .int res.2.1.2.2.2.2.1, .long res.2.1.2.2.2.2.2.2.2.2.2, .ref a_t_worth, .int res.2.1.2.2.2.2.2.1, .int res.2.1.2.2.2.2.2.2.1, .ref a_t_readPaper, .ref a_t_read, .int res.2.1.2.2.2.2.2.2.2.1, .int res.2.1.2.2.2.2.2.2.2.2.1])), (a_t_now, .inl (cI, 66, .inl res.2.2.1)), (a_t_diary, .inl (cI, 924, .inl res.2.2.2))] [.ref a_t, .int v1] (some (.int res.1)) := by
  refine Mu.ofI (by decide) (Nat.le_of_ble_eq_true rfl) [(0, .ref a_t), (1, .int v1)] rfl ?_
  intro p e s m args below meth c ls Q A hx hb hml hown hU hE hP hD hS hA rt hl
  have hown : s.vm.findClass RX4 = some m.cls := hown
  unfold mX4_tear at hM
  refine lv_aload_n hx hb dX4_tear_0 rfl (lv_at hl 0 rfl) ?_
  refine lv_iload_n hx hb dX4_tear_1 rfl (lv_at hl 1 rfl) ?_
  obtain ⟨x2, h2, hM⟩ := bind_e hM
  refine rdV (As := [.int v1]) (rest := []) (st2 := [.int (b2i x2)]) ⟨hx, hb, hml, hown, hU⟩ hE (okX4_isGrant a_t a_t_text a_t_paper a_t_now a_t_trial a_t_diary a_t_kept a_t_isKept a_t_seenAt a_t_worth a_t_readPaper a_t_read s_t s_t_now v1 x2 h2) lk_X4_169 (hP.sub [0, 1] rfl) rfl rfl rfl hl.1 rfl (Nat.le_of_ble_eq_true rfl) ⟨Nat.le_of_ble_eq_true rfl, Nat.le_of_ble_eq_true rfl⟩ dX4_tear_2 ⟨Nat.le_refl _, Nat.le_refl _⟩ rfl ?_
  refine lv_if_ne (tgt := 10) hx hb dX4_tear_5 (by decide) (fun c5 => ?_) (fun c5 => ?_)
  · have hM := ite_t (b2i_ne0 c5) hM
    refine lv_aload_n hx hb dX4_tear_10 rfl (lv_at hl 0 rfl) ?_
    obtain ⟨x11, h11, hM⟩ := bind_e hM
    refine muV (As := []) (rest := []) (st2 := []) (nw := [(a_t, .inr (4, [.ref a_t_text, .int x11.1.1, .int x11.1.2.1, .ref a_t_paper, .ref a_t_now, .ref a_t_trial, .ref a_t_diary, .int x11.1.2.2.1, .int x11.1.2.2.2.1, .ref a_t_kept, .ref a_t_isKept, .ref a_t_seenAt, .int x11.1.2.2.2.2.1, .long x11.1.2.2.2.2.2.2.2.2.2, .ref a_t_worth, .int x11.1.2.2.2.2.2.1, .int x11.1.2.2.2.2.2.2.1, .ref a_t_readPaper, .ref a_t_read, .int x11.1.2.2.2.2.2.2.2.1, .int x11.1.2.2.2.2.2.2.2.2.1])), (a_t_now, .inl (cI, 66, .inl s_t_now)), (a_t_diary, .inl (cI, 924, .inl x11.2))]) ⟨hx, hb, hml, hown, hU⟩ hE (okX4_note a_t a_t_text a_t_paper a_t_now a_t_trial a_t_diary a_t_kept a_t_isKept a_t_seenAt a_t_worth a_t_readPaper a_t_read s_t s_t_now s_t_diary x11 h11) lk_X4_188 hP hD hS hA [0, 1, 2] rfl rfl rfl rfl rfl rfl hl.1 rfl (Nat.le_of_ble_eq_true rfl) ⟨Nat.le_of_ble_eq_true rfl, Nat.le_of_ble_eq_true rfl⟩ dX4_tear_11 ⟨Nat.le_refl _, Nat.le_refl _⟩ rfl rfl rfl rfl (fun H locs hP hD hS => ?_)
    refine lv_aload_n hx hb dX4_tear_14 rfl (lv_at hl 0 rfl) ?_
    refine va_get (D := (dC, dI)) (ci := 4) (v := .ref a_t_now) (C := RX4) (T := TX4) (N := 21) hx hb hU inlX4 hown hE.1 hP 0 rfl rfl 4 (by decide) (hU _ u_4_15) (fun _ h9 => h9) rfl dX4_tear_15 ?_
    refine lv_iload_n hx hb dX4_tear_18 rfl (lv_at hl 1 rfl) ?_
    obtain ⟨x19, h19, hM⟩ := bind_e hM
    refine muS (As := [.ref a_t_now, .int v1]) (rest := []) (st2 := []) (nw := [(a_t, .inr (4, [.ref a_t_text, .int x11.1.1, .int x11.1.2.1, .ref a_t_paper, .ref a_t_now, .ref a_t_trial, .ref a_t_diary, .int x11.1.2.2.1, .int x11.1.2.2.2.1, .ref a_t_kept, .ref a_t_isKept, .ref a_t_seenAt, .int x11.1.2.2.2.2.1, .long x11.1.2.2.2.2.2.2.2.2.2, .ref a_t_worth, .int x11.1.2.2.2.2.2.1, .int x11.1.2.2.2.2.2.2.1, .ref a_t_readPaper, .ref a_t_read, .int x11.1.2.2.2.2.2.2.2.1, .int x11.1.2.2.2.2.2.2.2.2.1])), (a_t_now, .inl (cI, 66, .inl x19)), (a_t_diary, .inl (cI, 924, .inl x11.2))]) ⟨hx, hb, hml, hown, hU⟩ hE (okX4_takeGrant a_t_now s_t_now v1 x19 h19) lk_X4_195 hP hD hS hA [1] rfl rfl rfl rfl hl.1 rfl (Nat.le_of_ble_eq_true rfl) ⟨Nat.le_of_ble_eq_true rfl, Nat.le_of_ble_eq_true rfl⟩ dX4_tear_19 ⟨Nat.le_refl _, Nat.le_refl _⟩ rfl rfl rfl rfl (fun H locs hP hD hS => ?_)
    refine lv_aload_n hx hb dX4_tear_22 rfl (lv_at hl 0 rfl) ?_
    refine va_get (D := (dC, dI)) (ci := 4) (v := .ref a_t_now) (C := RX4) (T := TX4) (N := 21) hx hb hU inlX4 hown hE.1 hP 0 rfl rfl 4 (by decide) (hU _ u_4_15) (fun _ h9 => h9) rfl dX4_tear_23 ?_
    refine lv_iconst (v := (0 : Int32)) hx hb dX4_tear_26 (by decide) ?_
    obtain ⟨g27, hM⟩ := rd_e hM
    refine va_iald hx hb hE.1 hP 1 0 rfl rfl g27 dX4_tear_27 ?_
    cases hM
    exact rt _ _ _ _ _ hP hS dX4_tear_28 rfl
  · have hM := ite_f (b2i_eq0 c5) hM
    refine lv_iconst (v := (-1 : Int32)) hx hb dX4_tear_8 (by decide) ?_
    cases hM
    exact rt _ _ _ _ _ hP hS dX4_tear_9 rfl
noncomputable def mX4_theft_b34 (s_t_now : Nat → Int32) (s_t_paper : Nat → Int32) (v1 : Int32) (v2 : Int32) (v3 : Int32) : Nat → Int32 → (Nat → Int32) → Option (Int32 × (Nat → Int32))
  | 0, _, _ => none
  | n + 1, v4, s_t_trial => (if (6 : Int32) ≤ v4 then some ((-9 : Int32), s_t_trial) else (mX4_copy s_t_now s_t_trial).bind (fun x49 => (mX4_sizeOf v4).bind (fun x60 => rmd v1 x60 (fun x63 => (mX4_addRoute x49 (v1 - x63) v4 v2).bind (fun x68 => (mX4_goesOf x68 s_t_paper v1 v3).bind (fun x78 => rd x68 66 (41 : Int32) (fun x87 => (if x78 = (x87 - (1 : Int32)) then some (v4, x68) else mX4_theft_b34 s_t_now s_t_paper v1 v2 v3 n (v4 + (1 : Int32)) x68))))))))
noncomputable def mX4_theft (s_t_now : Nat → Int32) (s_t_trial : Nat → Int32) (s_t_paper : Nat → Int32) (v1 : Int32) (v2 : Int32) (v3 : Int32) : Option (Int32 × (Nat → Int32)) := (mX4_in (v1.toInt64) (0 : Int64) (31 : Int64)).bind (fun x6 => (if x6 = true then (mX4_isOrigin v2).bind (fun x13 => (if x13 = true then (mX4_isLaw v3).bind (fun x22 => (if x22 = true then mX4_theft_b34 s_t_now s_t_paper v1 v2 v3 FU (0 : Int32) s_t_trial else some ((-2 : Int32), s_t_trial))) else some ((-1 : Int32), s_t_trial))) else some ((-1 : Int32), s_t_trial)))
set_option maxHeartbeats 4000000 in
set_option maxRecDepth 100000 in
theorem okX4_theft {l : Launch} {dC : Nat → ClassId} {dI : Nat → Nat → Nat} {cI cC cZ : ClassId} (a_t a_t_text a_t_paper a_t_now a_t_trial a_t_diary a_t_kept a_t_isKept a_t_seenAt a_t_worth a_t_readPaper a_t_read : Nat) (s_t : Int32 × Int32 × Int32 × Int32 × Int32 × Int32 × Int32 × Int32 × Int32 × Int64) (s_t_now : Nat → Int32) (s_t_trial : Nat → Int32) (s_t_paper : Nat → Int32) (v1 : Int32) (v2 : Int32) (v3 : Int32) (res : Int32 × (Nat → Int32)) (hM : mX4_theft s_t_now s_t_trial s_t_paper v1 v2 v3 = some res) : Mu l yX4_theft cX4_theft 5 (some .int) 9 221 (dC, dI) cI cC cZ [(a_t, .inr (4, [.ref a_t_text, .int s_t.1, .int s_t.2.1, .ref a_t_paper, .ref a_t_now, .ref a_t_trial, .ref a_t_diary, .int s_t.2.2.1, .int s_t.2.2.2.1, .ref a_t_kept, .ref a_t_isKept, .ref a_t_seenAt, .int s_t.2.2.2.2.1, .long s_t.2.2.2.2.2.2.2.2.2, .ref a_t_worth, .int s_t.2.2.2.2.2.1, .int s_t.2.2.2.2.2.2.1, .ref a_t_readPaper, .ref a_t_read, .int s_t.2.2.2.2.2.2.2.1, .int s_t.2.2.2.2.2.2.2.2.1])), (a_t_now, .inl (cI, 66, .inl s_t_now)), (a_t_trial, .inl (cI, 66, .inl s_t_trial)), (a_t_paper, .inl (cI, 24, .inl s_t_paper))] [(a_t, .inr (4, [.ref a_t_text, .int s_t.1, .int s_t.2.1, .ref a_t_paper, .ref a_t_now, .ref a_t_trial, .ref a_t_diary, .int s_t.2.2.1, .int s_t.2.2.2.1, .ref a_t_kept, .ref a_t_isKept, .ref a_t_seenAt, .int s_t.2.2.2.2.1, .long s_t.2.2.2.2.2.2.2.2.2, .ref a_t_worth, .int s_t.2.2.2.2.2.1, .int s_t.2.2.2.2.2.2.1, .ref a_t_readPaper, .ref a_t_read, .int s_t.2.2.2.2.2.2.2.1, .int s_t.2.2.2.2.2.2.2.2.1])), (a_t_now, .inl (cI, 66, .inl s_t_now)), (a_t_trial, .inl (cI, 66, .inl res.2)), (a_t_paper, .inl (cI, 24, .inl s_t_paper))] [.ref a_t, .int v1, .int v2, .int v3] (some (.int res.1)) := by
  refine Mu.ofI (by decide) (Nat.le_of_ble_eq_true rfl) [(0, .ref a_t), (1, .int v1), (2, .int v2), (3, .int v3)] rfl ?_
  intro p e s m args below meth c ls Q A hx hb hml hown hU hE hP hD hS hA rt hl
  have hown : s.vm.findClass RX4 = some m.cls := hown
  unfold mX4_theft at hM
  refine lv_iload_n hx hb dX4_theft_0 rfl (lv_at hl 1 rfl) ?_
  refine lv_i2l (v := (v1.toInt64)) hx hb dX4_theft_1 rfl ?_
  refine lv_lconst (v := (0 : Int64)) hx hb dX4_theft_2 (by decide) ?_
  refine lv_ldc2 hx hb hown (hU _ u_9_15) dX4_theft_3 ?_
  obtain ⟨x6, h6, hM⟩ := bind_e hM
  refine rdS (As := [.long (v1.toInt64), .long (0 : Int64), .long (31 : Int64)]) (rest := []) (st2 := [.int (b2i x6)]) ⟨hx, hb, hml, hown, hU⟩ hE (okX4_in (v1.toInt64) (0 : Int64) (31 : Int64) x6 h6) lk_X4_50 (hP.sub [] rfl) rfl hl.1 rfl (Nat.le_of_ble_eq_true rfl) ⟨Nat.le_of_ble_eq_true rfl, Nat.le_of_ble_eq_true rfl⟩ dX4_theft_6 ⟨Nat.le_refl _, Nat.le_refl _⟩ rfl ?_
  refine lv_if_eq (tgt := 19) hx hb dX4_theft_9 (by decide) (fun c9 => ?_) (fun c9 => ?_)
  · have hM := ite_f (b2i_eq0 c9) hM
    refine lv_iconst (v := (-1 : Int32)) hx hb dX4_theft_19 (by decide) ?_
    cases hM
    exact rt _ _ _ _ _ hP hS dX4_theft_20 rfl
  · have hM := ite_t (b2i_ne0 c9) hM
    refine lv_iload_n hx hb dX4_theft_12 rfl (lv_at hl 2 rfl) ?_
    obtain ⟨x13, h13, hM⟩ := bind_e hM
    refine rdS (As := [.int v2]) (rest := []) (st2 := [.int (b2i x13)]) ⟨hx, hb, hml, hown, hU⟩ hE (okX4_isOrigin v2 x13 h13) lk_X4_185 (hP.sub [] rfl) rfl hl.1 rfl (Nat.le_of_ble_eq_true rfl) ⟨Nat.le_of_ble_eq_true rfl, Nat.le_of_ble_eq_true rfl⟩ dX4_theft_13 ⟨Nat.le_refl _, Nat.le_refl _⟩ rfl ?_
    refine lv_if_ne (tgt := 21) hx hb dX4_theft_16 (by decide) (fun c16 => ?_) (fun c16 => ?_)
    · have hM := ite_t (b2i_ne0 c16) hM
      refine lv_iload_n hx hb dX4_theft_21 rfl (lv_at hl 3 rfl) ?_
      obtain ⟨x22, h22, hM⟩ := bind_e hM
      refine rdS (As := [.int v3]) (rest := []) (st2 := [.int (b2i x22)]) ⟨hx, hb, hml, hown, hU⟩ hE (okX4_isLaw v3 x22 h22) lk_X4_200 (hP.sub [] rfl) rfl hl.1 rfl (Nat.le_of_ble_eq_true rfl) ⟨Nat.le_of_ble_eq_true rfl, Nat.le_of_ble_eq_true rfl⟩ dX4_theft_22 ⟨Nat.le_refl _, Nat.le_refl _⟩ rfl ?_
      refine lv_if_ne (tgt := 31) hx hb dX4_theft_25 (by decide) (fun c25 => ?_) (fun c25 => ?_)
      · have hM := ite_t (b2i_ne0 c25) hM
        refine lv_iconst (v := (0 : Int32)) hx hb dX4_theft_31 (by decide) ?_
        refine lv_istore (lv' := [(4, .int (0 : Int32)), (0, .ref a_t), (1, .int v1), (2, .int v2), (3, .int v3)]) hx hb dX4_theft_32 hl (by decide) rfl (fun ls hl => ?_)
        have w_34 : ∀ (n : Nat) (v4_34 : Int32) (s_t_trial_34 : Nat → Int32), mX4_theft_b34 s_t_now s_t_paper v1 v2 v3 n v4_34 s_t_trial_34 = some res → ∀ (ls : Array Slot) (H : Heap) (locs : List Loc), va_P (dC, dI) vwCl [(a_t, .inr (4, [.ref a_t_text, .int s_t.1, .int s_t.2.1, .ref a_t_paper, .ref a_t_now, .ref a_t_trial, .ref a_t_diary, .int s_t.2.2.1, .int s_t.2.2.2.1, .ref a_t_kept, .ref a_t_isKept, .ref a_t_seenAt, .int s_t.2.2.2.2.1, .long s_t.2.2.2.2.2.2.2.2.2, .ref a_t_worth, .int s_t.2.2.2.2.2.1, .int s_t.2.2.2.2.2.2.1, .ref a_t_readPaper, .ref a_t_read, .int s_t.2.2.2.2.2.2.2.1, .int s_t.2.2.2.2.2.2.2.2.1])), (a_t_now, .inl (cI, 66, .inl s_t_now)), (a_t_trial, .inl (cI, 66, .inl s_t_trial_34)), (a_t_paper, .inl (cI, 24, .inl s_t_paper))] H → va_D A [(a_t, .inr (4, [.ref a_t_text, .int s_t.1, .int s_t.2.1, .ref a_t_paper, .ref a_t_now, .ref a_t_trial, .ref a_t_diary, .int s_t.2.2.1, .int s_t.2.2.2.1, .ref a_t_kept, .ref a_t_isKept, .ref a_t_seenAt, .int s_t.2.2.2.2.1, .long s_t.2.2.2.2.2.2.2.2.2, .ref a_t_worth, .int s_t.2.2.2.2.2.1, .int s_t.2.2.2.2.2.2.1, .ref a_t_readPaper, .ref a_t_read, .int s_t.2.2.2.2.2.2.2.1, .int s_t.2.2.2.2.2.2.2.2.1])), (a_t_now, .inl (cI, 66, .inl s_t_now)), (a_t_trial, .inl (cI, 66, .inl s_t_trial_34)), (a_t_paper, .inl (cI, 24, .inl s_t_paper))] → va_S A s.heap H locs → lv_has ls 5 [(0, .ref a_t), (1, .int v1), (2, .int v2), (3, .int v3), (4, .int v4_34)] → W p l e (RM 9 221) s m args below meth c H locs 0 0 Q (F0 m 34 ls []) := by
          intro n
          induction n with
          | zero =>
            intro v4_34 s_t_trial_34 hM
            rw [mX4_theft_b34] at hM
            cases hM
          | succ n_34 ih_34 =>
            intro v4_34 s_t_trial_34 hM ls H locs hP hD hS hl
            rw [mX4_theft_b34] at hM
            refine lv_iload hx hb dX4_theft_34 (lv_at hl 4 rfl) ?_
            refine lv_bipush (v := (6 : Int32)) hx hb dX4_theft_36 (by decide) ?_
            refine lv_icmp_ge (tgt := 102) hx hb dX4_theft_38 (by decide) (fun c38 => ?_) (fun c38 => ?_)
            · have hM := ite_t c38 hM
              refine lv_bipush (v := (-9 : Int32)) hx hb dX4_theft_102 (by decide) ?_
              cases hM
              exact rt _ _ _ _ _ hP hS dX4_theft_104 rfl
            · have hM := ite_f c38 hM
              refine lv_aload_n hx hb dX4_theft_41 rfl (lv_at hl 0 rfl) ?_
              refine va_get (D := (dC, dI)) (ci := 4) (v := .ref a_t_now) (C := RX4) (T := TX4) (N := 21) hx hb hU inlX4 hown hE.1 hP 0 rfl rfl 4 (by decide) (hU _ u_4_15) (fun _ h9 => h9) rfl dX4_theft_42 ?_
              refine lv_aload_n hx hb dX4_theft_45 rfl (lv_at hl 0 rfl) ?_
              refine va_get (D := (dC, dI)) (ci := 4) (v := .ref a_t_trial) (C := RX4) (T := TX4) (N := 21) hx hb hU inlX4 hown hE.1 hP 0 rfl rfl 5 (by decide) (hU _ u_4_16) (fun _ h9 => h9) rfl dX4_theft_46 ?_
              obtain ⟨x49, h49, hM⟩ := bind_e hM
              refine muS (As := [.ref a_t_now, .ref a_t_trial]) (rest := []) (st2 := []) (nw := [(a_t, .inr (4, [.ref a_t_text, .int s_t.1, .int s_t.2.1, .ref a_t_paper, .ref a_t_now, .ref a_t_trial, .ref a_t_diary, .int s_t.2.2.1, .int s_t.2.2.2.1, .ref a_t_kept, .ref a_t_isKept, .ref a_t_seenAt, .int s_t.2.2.2.2.1, .long s_t.2.2.2.2.2.2.2.2.2, .ref a_t_worth, .int s_t.2.2.2.2.2.1, .int s_t.2.2.2.2.2.2.1, .ref a_t_readPaper, .ref a_t_read, .int s_t.2.2.2.2.2.2.2.1, .int s_t.2.2.2.2.2.2.2.2.1])), (a_t_now, .inl (cI, 66, .inl s_t_now)), (a_t_trial, .inl (cI, 66, .inl x49)), (a_t_paper, .inl (cI, 24, .inl s_t_paper))]) ⟨hx, hb, hml, hown, hU⟩ hE (okX4_copy a_t_now a_t_trial s_t_now s_t_trial_34 x49 h49) lk_X4_113 hP hD hS hA [1, 2] rfl rfl rfl rfl hl.1 rfl (Nat.le_of_ble_eq_true rfl) ⟨Nat.le_of_ble_eq_true rfl, Nat.le_of_ble_eq_true rfl⟩ dX4_theft_49 ⟨Nat.le_refl _, Nat.le_refl _⟩ rfl rfl rfl rfl (fun H locs hP hD hS => ?_)
              refine lv_aload_n hx hb dX4_theft_52 rfl (lv_at hl 0 rfl) ?_
              refine va_get (D := (dC, dI)) (ci := 4) (v := .ref a_t_trial) (C := RX4) (T := TX4) (N := 21) hx hb hU inlX4 hown hE.1 hP 0 rfl rfl 5 (by decide) (hU _ u_4_16) (fun _ h9 => h9) rfl dX4_theft_53 ?_
              refine lv_iload_n hx hb dX4_theft_56 rfl (lv_at hl 1 rfl) ?_
              refine lv_iload_n hx hb dX4_theft_57 rfl (lv_at hl 1 rfl) ?_
              refine lv_iload hx hb dX4_theft_58 (lv_at hl 4 rfl) ?_
              obtain ⟨x60, h60, hM⟩ := bind_e hM
              refine rdS (As := [.int v4_34]) (rest := [.int v1, .int v1, .ref a_t_trial]) (st2 := [.int x60, .int v1, .int v1, .ref a_t_trial]) ⟨hx, hb, hml, hown, hU⟩ hE (okX4_sizeOf v4_34 x60 h60) lk_X4_56 (hP.sub [] rfl) rfl hl.1 rfl (Nat.le_of_ble_eq_true rfl) ⟨Nat.le_of_ble_eq_true rfl, Nat.le_of_ble_eq_true rfl⟩ dX4_theft_60 ⟨Nat.le_refl _, Nat.le_refl _⟩ rfl ?_
              obtain ⟨g63, hM⟩ := rmd_e hM
              refine lv_irem hx hb dX4_theft_63 g63 ?_
              refine lv_isub hx hb dX4_theft_64 ?_
              refine lv_iload hx hb dX4_theft_65 (lv_at hl 4 rfl) ?_
              refine lv_iload_n hx hb dX4_theft_67 rfl (lv_at hl 2 rfl) ?_
              obtain ⟨x68, h68, hM⟩ := bind_e hM
              refine muS (As := [.ref a_t_trial, .int (v1 - (v1 - v1 / x60 * x60)), .int v4_34, .int v2]) (rest := []) (st2 := []) (nw := [(a_t, .inr (4, [.ref a_t_text, .int s_t.1, .int s_t.2.1, .ref a_t_paper, .ref a_t_now, .ref a_t_trial, .ref a_t_diary, .int s_t.2.2.1, .int s_t.2.2.2.1, .ref a_t_kept, .ref a_t_isKept, .ref a_t_seenAt, .int s_t.2.2.2.2.1, .long s_t.2.2.2.2.2.2.2.2.2, .ref a_t_worth, .int s_t.2.2.2.2.2.1, .int s_t.2.2.2.2.2.2.1, .ref a_t_readPaper, .ref a_t_read, .int s_t.2.2.2.2.2.2.2.1, .int s_t.2.2.2.2.2.2.2.2.1])), (a_t_now, .inl (cI, 66, .inl s_t_now)), (a_t_trial, .inl (cI, 66, .inl x68)), (a_t_paper, .inl (cI, 24, .inl s_t_paper))]) ⟨hx, hb, hml, hown, hU⟩ hE (okX4_addRoute a_t_trial x49 (v1 - (v1 - v1 / x60 * x60)) v4_34 v2 x68 h68) lk_X4_93 hP hD hS hA [2] rfl rfl rfl rfl hl.1 rfl (Nat.le_of_ble_eq_true rfl) ⟨Nat.le_of_ble_eq_true rfl, Nat.le_of_ble_eq_true rfl⟩ dX4_theft_68 ⟨Nat.le_refl _, Nat.le_refl _⟩ rfl rfl rfl rfl (fun H locs hP hD hS => ?_)
              refine lv_aload_n hx hb dX4_theft_71 rfl (lv_at hl 0 rfl) ?_
              refine lv_aload_n hx hb dX4_theft_72 rfl (lv_at hl 0 rfl) ?_
              refine va_get (D := (dC, dI)) (ci := 4) (v := .ref a_t_trial) (C := RX4) (T := TX4) (N := 21) hx hb hU inlX4 hown hE.1 hP 0 rfl rfl 5 (by decide) (hU _ u_4_16) (fun _ h9 => h9) rfl dX4_theft_73 ?_
              refine lv_iload_n hx hb dX4_theft_76 rfl (lv_at hl 1 rfl) ?_
              refine lv_iload_n hx hb dX4_theft_77 rfl (lv_at hl 3 rfl) ?_
              obtain ⟨x78, h78, hM⟩ := bind_e hM
              refine rdV (As := [.ref a_t_trial, .int v1, .int v3]) (rest := []) (st2 := [.int x78]) ⟨hx, hb, hml, hown, hU⟩ hE (okX4_goesOf a_t a_t_text a_t_paper a_t_now a_t_trial a_t_diary a_t_kept a_t_isKept a_t_seenAt a_t_worth a_t_readPaper a_t_read a_t_trial s_t x68 s_t_paper v1 v3 x78 h78) lk_X4_203 (hP.sub [0, 2, 3] rfl) rfl rfl rfl hl.1 rfl (Nat.le_of_ble_eq_true rfl) ⟨Nat.le_of_ble_eq_true rfl, Nat.le_of_ble_eq_true rfl⟩ dX4_theft_78 ⟨Nat.le_refl _, Nat.le_refl _⟩ rfl ?_
              refine lv_aload_n hx hb dX4_theft_81 rfl (lv_at hl 0 rfl) ?_
              refine va_get (D := (dC, dI)) (ci := 4) (v := .ref a_t_trial) (C := RX4) (T := TX4) (N := 21) hx hb hU inlX4 hown hE.1 hP 0 rfl rfl 5 (by decide) (hU _ u_4_16) (fun _ h9 => h9) rfl dX4_theft_82 ?_
              refine lv_bipush (v := (41 : Int32)) hx hb dX4_theft_85 (by decide) ?_
              obtain ⟨g87, hM⟩ := rd_e hM
              refine va_iald hx hb hE.1 hP 2 0 rfl rfl g87 dX4_theft_87 ?_
              refine lv_iconst (v := (1 : Int32)) hx hb dX4_theft_88 (by decide) ?_
              refine lv_isub hx hb dX4_theft_89 ?_
              refine lv_icmp_ne (tgt := 96) hx hb dX4_theft_90 (by decide) (fun c90 => ?_) (fun c90 => ?_)
              · have hM := ite_f c90 hM
                refine lv_iinc (v := (v4_34 + (1 : Int32))) (lv' := [(4, .int (v4_34 + (1 : Int32))), (0, .ref a_t), (1, .int v1), (2, .int v2), (3, .int v3)]) hx hb dX4_theft_96 hl (k := 4) rfl rfl (by decide) rfl (fun ls hl => ?_)
                refine lv_goto (tgt := 34) hx hb dX4_theft_99 (by decide) ?_
                exact ih_34 (v4_34 + (1 : Int32)) x68 hM ls _ _ hP hD hS (lv_sub hl [1, 2, 3, 4, 0] rfl)
              · have hM := ite_t c90 hM
                refine lv_iload hx hb dX4_theft_93 (lv_at hl 4 rfl) ?_
                cases hM
                exact rt _ _ _ _ _ hP hS dX4_theft_95 rfl
        exact w_34 FU (0 : Int32) s_t_trial hM ls _ _ hP hD hS (lv_sub hl [1, 2, 3, 4, 0] rfl)
      · have hM := ite_f (b2i_eq0 c25) hM
        refine lv_bipush (v := (-2 : Int32)) hx hb dX4_theft_28 (by decide) ?_
        cases hM
        exact rt _ _ _ _ _ hP hS dX4_theft_30 rfl
    · have hM := ite_f (b2i_eq0 c16) hM
      refine lv_iconst (v := (-1 : Int32)) hx hb dX4_theft_19 (by decide) ?_
      cases hM
      exact rt _ _ _ _ _ hP hS dX4_theft_20 rfl
noncomputable def mX4_tree_b22 (s_t : Int32 × Int32 × Int32 × Int32 × Int32 × Int32 × Int32 × Int32 × Int32 × Int64) (s_t_text : Nat → Int32) (s_t_read : Nat → Int32) (s_t_readPaper : Nat → Int32) (s_t_now : Nat → Int32) (s_t_isKept : Nat → Int32) : Nat → Int32 → (Nat → Int32) → Option (Int32 × (Int32 × Int32 × Int32 × Int32 × Int32 × Int32 × Int32 × Int32 × Int32 × Int64) × (Nat → Int32) × (Nat → Int32) × (Nat → Int32) × (Nat → Int32) × (Nat → Int32))
  | 0, _, _ => none
  | n + 1, v1, s_t_paper => (if ((4 : Int32) * s_t.2.1) ≤ v1 then (mX4_copy s_t_read s_t_now).bind (fun x58 => wr s_t_isKept 2 (0 : Int32) (0 : Int32) (fun x72 => wr x72 2 (1 : Int32) (0 : Int32) (fun x79 => some (s_t.2.1, (s_t.1, s_t.2.1, (0 : Int32), s_t.2.2.2.1, s_t.2.2.2.2.1, s_t.2.2.2.2.2.1, s_t.2.2.2.2.2.2.1, s_t.2.2.2.2.2.2.2.1, s_t.2.2.2.2.2.2.2.2.1, s_t.2.2.2.2.2.2.2.2.2), s_t_read, s_t_readPaper, x58, x79, s_t_paper)))) else rd s_t_readPaper 24 v1 (fun x42 => wr s_t_paper 24 v1 x42 (fun x43 => mX4_tree_b22 s_t s_t_text s_t_read s_t_readPaper s_t_now s_t_isKept n (v1 + (1 : Int32)) x43)))
noncomputable def mX4_tree (s_t : Int32 × Int32 × Int32 × Int32 × Int32 × Int32 × Int32 × Int32 × Int32 × Int64) (s_t_text : Nat → Int32) (s_t_read : Nat → Int32) (s_t_readPaper : Nat → Int32) (s_t_now : Nat → Int32) (s_t_isKept : Nat → Int32) (s_t_paper : Nat → Int32) : Option (Int32 × (Int32 × Int32 × Int32 × Int32 × Int32 × Int32 × Int32 × Int32 × Int32 × Int64) × (Nat → Int32) × (Nat → Int32) × (Nat → Int32) × (Nat → Int32) × (Nat → Int32)) := (mX4_readText s_t s_t_text s_t_read s_t_readPaper).bind (fun x1 => (if x1.1 = (-9 : Int32) then mX4_tree_b22 (x1.2.1.1, x1.2.1.2.2.2.2.2.2.1, x1.2.1.2.2.1, x1.2.1.2.2.2.1, x1.2.1.2.2.2.2.1, x1.2.1.2.2.2.2.2.1, x1.2.1.2.2.2.2.2.2.1, x1.2.1.2.2.2.2.2.2.2.1, x1.2.1.2.2.2.2.2.2.2.2.1, x1.2.1.2.2.2.2.2.2.2.2.2) s_t_text x1.2.2.1 x1.2.2.2 s_t_now s_t_isKept FU (4 : Int32) s_t_paper else some ((-3 : Int32), x1.2.1, x1.2.2.1, x1.2.2.2, s_t_now, s_t_isKept, s_t_paper)))
set_option maxHeartbeats 4000000 in
set_option maxRecDepth 100000 in
theorem okX4_tree {l : Launch} {dC : Nat → ClassId} {dI : Nat → Nat → Nat} {cI cC cZ : ClassId} (a_t a_t_text a_t_paper a_t_now a_t_trial a_t_diary a_t_kept a_t_isKept a_t_seenAt a_t_worth a_t_readPaper a_t_read : Nat) (s_t : Int32 × Int32 × Int32 × Int32 × Int32 × Int32 × Int32 × Int32 × Int32 × Int64) (s_t_text : Nat → Int32) (s_t_read : Nat → Int32) (s_t_readPaper : Nat → Int32) (s_t_now : Nat → Int32) (s_t_isKept : Nat → Int32) (s_t_paper : Nat → Int32) (res : Int32 × (Int32 × Int32 × Int32 × Int32 × Int32 × Int32 × Int32 × Int32 × Int32 × Int64) × (Nat → Int32) × (Nat → Int32) × (Nat → Int32) × (Nat → Int32) × (Nat → Int32)) (hM : mX4_tree s_t s_t_text s_t_read s_t_readPaper s_t_now s_t_isKept s_t_paper = some res) : Mu l yX4_tree cX4_tree 2 (some .int) 6 137 (dC, dI) cI cC cZ [(a_t, .inr (4, [.ref a_t_text, .int s_t.1, .int s_t.2.1, .ref a_t_paper, .ref a_t_now, .ref a_t_trial, .ref a_t_diary, .int s_t.2.2.1, .int s_t.2.2.2.1, .ref a_t_kept, .ref a_t_isKept, .ref a_t_seenAt, .int s_t.2.2.2.2.1, .long s_t.2.2.2.2.2.2.2.2.2, .ref a_t_worth, .int s_t.2.2.2.2.2.1, .int s_t.2.2.2.2.2.2.1, .ref a_t_readPaper, .ref a_t_read, .int s_t.2.2.2.2.2.2.2.1, .int s_t.2.2.2.2.2.2.2.2.1])), (a_t_text, .inl (cI, 99, .inl s_t_text)), (a_t_read, .inl (cI, 66, .inl s_t_read)), (a_t_readPaper, .inl (cI, 24, .inl s_t_readPaper)), (a_t_now, .inl (cI, 66, .inl s_t_now)), (a_t_isKept, .inl (cZ, 2, .inl s_t_isKept)), (a_t_paper, .inl (cI, 24, .inl s_t_paper))] [(a_t, .inr (4, [.ref a_t_text, .int res.2.1.1, .int res.2.1.2.1, .ref a_t_paper, .ref a_t_now, .ref a_t_trial, .ref a_t_diary, .int res.2.1.2.2.1, .int res.2.1.2.2.2.1, .ref a_t_kept, .ref a_t_isKept, .ref a_t_seenAt, .int res.2.1.2.2.2.2.1, .long res.2.1.2.2.2.2.2.2.2.2.2, .ref a_t_worth, .int res.2.1.2.2.2.2.2.1, .int res.2.1.2.2.2.2.2.2.1, .ref a_t_readPaper, .ref a_t_read, .int res.2.1.2.2.2.2.2.2.2.1, .int res.2.1.2.2.2.2.2.2.2.2.1])), (a_t_text, .inl (cI, 99, .inl s_t_text)), (a_t_read, .inl (cI, 66, .inl res.2.2.1)), (a_t_readPaper, .inl (cI, 24, .inl res.2.2.2.1)), (a_t_now, .inl (cI, 66, .inl res.2.2.2.2.1)), (a_t_isKept, .inl (cZ, 2, .inl res.2.2.2.2.2.1)), (a_t_paper, .inl (cI, 24, .inl res.2.2.2.2.2.2))] [.ref a_t] (some (.int res.1)) := by
  refine Mu.ofI (by decide) (Nat.le_of_ble_eq_true rfl) [(0, .ref a_t)] rfl ?_
  intro p e s m args below meth c ls Q A hx hb hml hown hU hE hP hD hS hA rt hl
  have hown : s.vm.findClass RX4 = some m.cls := hown
  unfold mX4_tree at hM
  refine lv_aload_n hx hb dX4_tree_0 rfl (lv_at hl 0 rfl) ?_
  obtain ⟨x1, h1, hM⟩ := bind_e hM
  refine muV (As := []) (rest := []) (st2 := [.int x1.1]) (nw := [(a_t, .inr (4, [.ref a_t_text, .int x1.2.1.1, .int x1.2.1.2.1, .ref a_t_paper, .ref a_t_now, .ref a_t_trial, .ref a_t_diary, .int x1.2.1.2.2.1, .int x1.2.1.2.2.2.1, .ref a_t_kept, .ref a_t_isKept, .ref a_t_seenAt, .int x1.2.1.2.2.2.2.1, .long x1.2.1.2.2.2.2.2.2.2.2.2, .ref a_t_worth, .int x1.2.1.2.2.2.2.2.1, .int x1.2.1.2.2.2.2.2.2.1, .ref a_t_readPaper, .ref a_t_read, .int x1.2.1.2.2.2.2.2.2.2.1, .int x1.2.1.2.2.2.2.2.2.2.2.1])), (a_t_text, .inl (cI, 99, .inl s_t_text)), (a_t_read, .inl (cI, 66, .inl x1.2.2.1)), (a_t_readPaper, .inl (cI, 24, .inl x1.2.2.2)), (a_t_now, .inl (cI, 66, .inl s_t_now)), (a_t_isKept, .inl (cZ, 2, .inl s_t_isKept)), (a_t_paper, .inl (cI, 24, .inl s_t_paper))]) ⟨hx, hb, hml, hown, hU⟩ hE (okX4_readText a_t a_t_text a_t_paper a_t_now a_t_trial a_t_diary a_t_kept a_t_isKept a_t_seenAt a_t_worth a_t_readPaper a_t_read s_t s_t_text s_t_read s_t_readPaper x1 h1) lk_X4_109 hP hD hS hA [0, 1, 2, 3] rfl rfl rfl rfl rfl rfl hl.1 rfl (Nat.le_of_ble_eq_true rfl) ⟨Nat.le_of_ble_eq_true rfl, Nat.le_of_ble_eq_true rfl⟩ dX4_tree_1 ⟨Nat.le_refl _, Nat.le_refl _⟩ rfl rfl rfl rfl (fun H locs hP hD hS => ?_)
  refine lv_bipush (v := (-9 : Int32)) hx hb dX4_tree_4 (by decide) ?_
  refine lv_icmp_eq (tgt := 12) hx hb dX4_tree_6 (by decide) (fun c6 => ?_) (fun c6 => ?_)
  · have hM := ite_t c6 hM
    refine lv_aload_n hx hb dX4_tree_12 rfl (lv_at hl 0 rfl) ?_
    refine lv_aload_n hx hb dX4_tree_13 rfl (lv_at hl 0 rfl) ?_
    refine va_get (D := (dC, dI)) (ci := 4) (v := .int x1.2.1.2.2.2.2.2.2.1) (C := RX4) (T := TX4) (N := 21) hx hb hU inlX4 hown hE.1 hP 0 rfl rfl 16 (by decide) (hU _ u_8_15) (fun _ h9 => h9) rfl dX4_tree_14 ?_
    refine va_put (D := (dC, dI)) (ci := 4) (v := .int x1.2.1.2.2.2.2.2.2.1) (ty := .int) (C := RX4) (T := TX4) (N := 21) hx hb hU inlX4 tyX4 tyX4_ok nmX4 hown hE.1 hP hD hS 0 rfl rfl 2 (by decide) (hU _ u_5_1) (fun _ h9 => h9) rfl (tyX4_ok 2 (by decide)) rfl rfl (Nat.le_of_ble_eq_true rfl) dX4_tree_17 (fun H locs hP hD hS => ?_)
    have hP : va_P (dC, dI) vwCl [(a_t, .inr (4, [.ref a_t_text, .int x1.2.1.1, .int x1.2.1.2.2.2.2.2.2.1, .ref a_t_paper, .ref a_t_now, .ref a_t_trial, .ref a_t_diary, .int x1.2.1.2.2.1, .int x1.2.1.2.2.2.1, .ref a_t_kept, .ref a_t_isKept, .ref a_t_seenAt, .int x1.2.1.2.2.2.2.1, .long x1.2.1.2.2.2.2.2.2.2.2.2, .ref a_t_worth, .int x1.2.1.2.2.2.2.2.1, .int x1.2.1.2.2.2.2.2.2.1, .ref a_t_readPaper, .ref a_t_read, .int x1.2.1.2.2.2.2.2.2.2.1, .int x1.2.1.2.2.2.2.2.2.2.2.1])), (a_t_text, .inl (cI, 99, .inl s_t_text)), (a_t_read, .inl (cI, 66, .inl x1.2.2.1)), (a_t_readPaper, .inl (cI, 24, .inl x1.2.2.2)), (a_t_now, .inl (cI, 66, .inl s_t_now)), (a_t_isKept, .inl (cZ, 2, .inl s_t_isKept)), (a_t_paper, .inl (cI, 24, .inl s_t_paper))] H := hP
    have hD : va_D A [(a_t, .inr (4, [.ref a_t_text, .int x1.2.1.1, .int x1.2.1.2.2.2.2.2.2.1, .ref a_t_paper, .ref a_t_now, .ref a_t_trial, .ref a_t_diary, .int x1.2.1.2.2.1, .int x1.2.1.2.2.2.1, .ref a_t_kept, .ref a_t_isKept, .ref a_t_seenAt, .int x1.2.1.2.2.2.2.1, .long x1.2.1.2.2.2.2.2.2.2.2.2, .ref a_t_worth, .int x1.2.1.2.2.2.2.2.1, .int x1.2.1.2.2.2.2.2.2.1, .ref a_t_readPaper, .ref a_t_read, .int x1.2.1.2.2.2.2.2.2.2.1, .int x1.2.1.2.2.2.2.2.2.2.2.1])), (a_t_text, .inl (cI, 99, .inl s_t_text)), (a_t_read, .inl (cI, 66, .inl x1.2.2.1)), (a_t_readPaper, .inl (cI, 24, .inl x1.2.2.2)), (a_t_now, .inl (cI, 66, .inl s_t_now)), (a_t_isKept, .inl (cZ, 2, .inl s_t_isKept)), (a_t_paper, .inl (cI, 24, .inl s_t_paper))] := hD
    refine lv_iconst (v := (4 : Int32)) hx hb dX4_tree_20 (by decide) ?_
    refine lv_istore_n (lv' := [(1, .int (4 : Int32)), (0, .ref a_t)]) hx hb dX4_tree_21 rfl hl (by decide) rfl (fun ls hl => ?_)
    have w_22 : ∀ (n : Nat) (v1_22 : Int32) (s_t_paper_22 : Nat → Int32), mX4_tree_b22 (x1.2.1.1, x1.2.1.2.2.2.2.2.2.1, x1.2.1.2.2.1, x1.2.1.2.2.2.1, x1.2.1.2.2.2.2.1, x1.2.1.2.2.2.2.2.1, x1.2.1.2.2.2.2.2.2.1, x1.2.1.2.2.2.2.2.2.2.1, x1.2.1.2.2.2.2.2.2.2.2.1, x1.2.1.2.2.2.2.2.2.2.2.2) s_t_text x1.2.2.1 x1.2.2.2 s_t_now s_t_isKept n v1_22 s_t_paper_22 = some res → ∀ (ls : Array Slot) (H : Heap) (locs : List Loc), va_P (dC, dI) vwCl [(a_t, .inr (4, [.ref a_t_text, .int x1.2.1.1, .int x1.2.1.2.2.2.2.2.2.1, .ref a_t_paper, .ref a_t_now, .ref a_t_trial, .ref a_t_diary, .int x1.2.1.2.2.1, .int x1.2.1.2.2.2.1, .ref a_t_kept, .ref a_t_isKept, .ref a_t_seenAt, .int x1.2.1.2.2.2.2.1, .long x1.2.1.2.2.2.2.2.2.2.2.2, .ref a_t_worth, .int x1.2.1.2.2.2.2.2.1, .int x1.2.1.2.2.2.2.2.2.1, .ref a_t_readPaper, .ref a_t_read, .int x1.2.1.2.2.2.2.2.2.2.1, .int x1.2.1.2.2.2.2.2.2.2.2.1])), (a_t_text, .inl (cI, 99, .inl s_t_text)), (a_t_read, .inl (cI, 66, .inl x1.2.2.1)), (a_t_readPaper, .inl (cI, 24, .inl x1.2.2.2)), (a_t_now, .inl (cI, 66, .inl s_t_now)), (a_t_isKept, .inl (cZ, 2, .inl s_t_isKept)), (a_t_paper, .inl (cI, 24, .inl s_t_paper_22))] H → va_D A [(a_t, .inr (4, [.ref a_t_text, .int x1.2.1.1, .int x1.2.1.2.2.2.2.2.2.1, .ref a_t_paper, .ref a_t_now, .ref a_t_trial, .ref a_t_diary, .int x1.2.1.2.2.1, .int x1.2.1.2.2.2.1, .ref a_t_kept, .ref a_t_isKept, .ref a_t_seenAt, .int x1.2.1.2.2.2.2.1, .long x1.2.1.2.2.2.2.2.2.2.2.2, .ref a_t_worth, .int x1.2.1.2.2.2.2.2.1, .int x1.2.1.2.2.2.2.2.2.1, .ref a_t_readPaper, .ref a_t_read, .int x1.2.1.2.2.2.2.2.2.2.1, .int x1.2.1.2.2.2.2.2.2.2.2.1])), (a_t_text, .inl (cI, 99, .inl s_t_text)), (a_t_read, .inl (cI, 66, .inl x1.2.2.1)), (a_t_readPaper, .inl (cI, 24, .inl x1.2.2.2)), (a_t_now, .inl (cI, 66, .inl s_t_now)), (a_t_isKept, .inl (cZ, 2, .inl s_t_isKept)), (a_t_paper, .inl (cI, 24, .inl s_t_paper_22))] → va_S A s.heap H locs → lv_has ls 2 [(0, .ref a_t), (1, .int v1_22)] → W p l e (RM 6 137) s m args below meth c H locs 0 0 Q (F0 m 22 ls []) := by
      intro n
      induction n with
      | zero =>
        intro v1_22 s_t_paper_22 hM
        rw [mX4_tree_b22] at hM
        cases hM
      | succ n_22 ih_22 =>
        intro v1_22 s_t_paper_22 hM ls H locs hP hD hS hl
        rw [mX4_tree_b22] at hM
        refine lv_iload_n hx hb dX4_tree_22 rfl (lv_at hl 1 rfl) ?_
        refine lv_iconst (v := (4 : Int32)) hx hb dX4_tree_23 (by decide) ?_
        refine lv_aload_n hx hb dX4_tree_24 rfl (lv_at hl 0 rfl) ?_
        refine va_get (D := (dC, dI)) (ci := 4) (v := .int x1.2.1.2.2.2.2.2.2.1) (C := RX4) (T := TX4) (N := 21) hx hb hU inlX4 hown hE.1 hP 0 rfl rfl 2 (by decide) (hU _ u_5_1) (fun _ h9 => h9) rfl dX4_tree_25 ?_
        refine lv_imul hx hb dX4_tree_28 ?_
        refine lv_icmp_ge (tgt := 50) hx hb dX4_tree_29 (by decide) (fun c29 => ?_) (fun c29 => ?_)
        · have hM := ite_t c29 hM
          refine lv_aload_n hx hb dX4_tree_50 rfl (lv_at hl 0 rfl) ?_
          refine va_get (D := (dC, dI)) (ci := 4) (v := .ref a_t_read) (C := RX4) (T := TX4) (N := 21) hx hb hU inlX4 hown hE.1 hP 0 rfl rfl 18 (by decide) (hU _ u_5_0) (fun _ h9 => h9) rfl dX4_tree_51 ?_
          refine lv_aload_n hx hb dX4_tree_54 rfl (lv_at hl 0 rfl) ?_
          refine va_get (D := (dC, dI)) (ci := 4) (v := .ref a_t_now) (C := RX4) (T := TX4) (N := 21) hx hb hU inlX4 hown hE.1 hP 0 rfl rfl 4 (by decide) (hU _ u_4_15) (fun _ h9 => h9) rfl dX4_tree_55 ?_
          obtain ⟨x58, h58, hM⟩ := bind_e hM
          refine muS (As := [.ref a_t_read, .ref a_t_now]) (rest := []) (st2 := []) (nw := [(a_t, .inr (4, [.ref a_t_text, .int x1.2.1.1, .int x1.2.1.2.2.2.2.2.2.1, .ref a_t_paper, .ref a_t_now, .ref a_t_trial, .ref a_t_diary, .int x1.2.1.2.2.1, .int x1.2.1.2.2.2.1, .ref a_t_kept, .ref a_t_isKept, .ref a_t_seenAt, .int x1.2.1.2.2.2.2.1, .long x1.2.1.2.2.2.2.2.2.2.2.2, .ref a_t_worth, .int x1.2.1.2.2.2.2.2.1, .int x1.2.1.2.2.2.2.2.2.1, .ref a_t_readPaper, .ref a_t_read, .int x1.2.1.2.2.2.2.2.2.2.1, .int x1.2.1.2.2.2.2.2.2.2.2.1])), (a_t_text, .inl (cI, 99, .inl s_t_text)), (a_t_read, .inl (cI, 66, .inl x1.2.2.1)), (a_t_readPaper, .inl (cI, 24, .inl x1.2.2.2)), (a_t_now, .inl (cI, 66, .inl x58)), (a_t_isKept, .inl (cZ, 2, .inl s_t_isKept)), (a_t_paper, .inl (cI, 24, .inl s_t_paper_22))]) ⟨hx, hb, hml, hown, hU⟩ hE (okX4_copy a_t_read a_t_now x1.2.2.1 s_t_now x58 h58) lk_X4_113 hP hD hS hA [2, 4] rfl rfl rfl rfl hl.1 rfl (Nat.le_of_ble_eq_true rfl) ⟨Nat.le_of_ble_eq_true rfl, Nat.le_of_ble_eq_true rfl⟩ dX4_tree_58 ⟨Nat.le_refl _, Nat.le_refl _⟩ rfl rfl rfl rfl (fun H locs hP hD hS => ?_)
          refine lv_aload_n hx hb dX4_tree_61 rfl (lv_at hl 0 rfl) ?_
          refine lv_iconst (v := (0 : Int32)) hx hb dX4_tree_62 (by decide) ?_
          refine va_put (D := (dC, dI)) (ci := 4) (v := .int (0 : Int32)) (ty := .int) (C := RX4) (T := TX4) (N := 21) hx hb hU inlX4 tyX4 tyX4_ok nmX4 hown hE.1 hP hD hS 0 rfl rfl 7 (by decide) (hU _ u_11_10) (fun _ h9 => h9) rfl (tyX4_ok 7 (by decide)) rfl rfl (Nat.le_of_ble_eq_true rfl) dX4_tree_63 (fun H locs hP hD hS => ?_)
          have hP : va_P (dC, dI) vwCl [(a_t, .inr (4, [.ref a_t_text, .int x1.2.1.1, .int x1.2.1.2.2.2.2.2.2.1, .ref a_t_paper, .ref a_t_now, .ref a_t_trial, .ref a_t_diary, .int (0 : Int32), .int x1.2.1.2.2.2.1, .ref a_t_kept, .ref a_t_isKept, .ref a_t_seenAt, .int x1.2.1.2.2.2.2.1, .long x1.2.1.2.2.2.2.2.2.2.2.2, .ref a_t_worth, .int x1.2.1.2.2.2.2.2.1, .int x1.2.1.2.2.2.2.2.2.1, .ref a_t_readPaper, .ref a_t_read, .int x1.2.1.2.2.2.2.2.2.2.1, .int x1.2.1.2.2.2.2.2.2.2.2.1])), (a_t_text, .inl (cI, 99, .inl s_t_text)), (a_t_read, .inl (cI, 66, .inl x1.2.2.1)), (a_t_readPaper, .inl (cI, 24, .inl x1.2.2.2)), (a_t_now, .inl (cI, 66, .inl x58)), (a_t_isKept, .inl (cZ, 2, .inl s_t_isKept)), (a_t_paper, .inl (cI, 24, .inl s_t_paper_22))] H := hP
          have hD : va_D A [(a_t, .inr (4, [.ref a_t_text, .int x1.2.1.1, .int x1.2.1.2.2.2.2.2.2.1, .ref a_t_paper, .ref a_t_now, .ref a_t_trial, .ref a_t_diary, .int (0 : Int32), .int x1.2.1.2.2.2.1, .ref a_t_kept, .ref a_t_isKept, .ref a_t_seenAt, .int x1.2.1.2.2.2.2.1, .long x1.2.1.2.2.2.2.2.2.2.2.2, .ref a_t_worth, .int x1.2.1.2.2.2.2.2.1, .int x1.2.1.2.2.2.2.2.2.1, .ref a_t_readPaper, .ref a_t_read, .int x1.2.1.2.2.2.2.2.2.2.1, .int x1.2.1.2.2.2.2.2.2.2.2.1])), (a_t_text, .inl (cI, 99, .inl s_t_text)), (a_t_read, .inl (cI, 66, .inl x1.2.2.1)), (a_t_readPaper, .inl (cI, 24, .inl x1.2.2.2)), (a_t_now, .inl (cI, 66, .inl x58)), (a_t_isKept, .inl (cZ, 2, .inl s_t_isKept)), (a_t_paper, .inl (cI, 24, .inl s_t_paper_22))] := hD
          refine lv_aload_n hx hb dX4_tree_66 rfl (lv_at hl 0 rfl) ?_
          refine va_get (D := (dC, dI)) (ci := 4) (v := .ref a_t_isKept) (C := RX4) (T := TX4) (N := 21) hx hb hU inlX4 hown hE.1 hP 0 rfl rfl 10 (by decide) (hU _ u_4_20) (fun _ h9 => h9) rfl dX4_tree_67 ?_
          refine lv_iconst (v := (0 : Int32)) hx hb dX4_tree_70 (by decide) ?_
          refine lv_iconst (v := (0 : Int32)) hx hb dX4_tree_71 (by decide) ?_
          obtain ⟨g72, hM⟩ := wr_e hM
          refine va_zast hx hb hE.1 hP hD hS 5 2 rfl rfl g72 dX4_tree_72 (fun H locs hP hD hS => ?_)
          have hP : va_P (dC, dI) vwCl [(a_t, .inr (4, [.ref a_t_text, .int x1.2.1.1, .int x1.2.1.2.2.2.2.2.2.1, .ref a_t_paper, .ref a_t_now, .ref a_t_trial, .ref a_t_diary, .int (0 : Int32), .int x1.2.1.2.2.2.1, .ref a_t_kept, .ref a_t_isKept, .ref a_t_seenAt, .int x1.2.1.2.2.2.2.1, .long x1.2.1.2.2.2.2.2.2.2.2.2, .ref a_t_worth, .int x1.2.1.2.2.2.2.2.1, .int x1.2.1.2.2.2.2.2.2.1, .ref a_t_readPaper, .ref a_t_read, .int x1.2.1.2.2.2.2.2.2.2.1, .int x1.2.1.2.2.2.2.2.2.2.2.1])), (a_t_text, .inl (cI, 99, .inl s_t_text)), (a_t_read, .inl (cI, 66, .inl x1.2.2.1)), (a_t_readPaper, .inl (cI, 24, .inl x1.2.2.2)), (a_t_now, .inl (cI, 66, .inl x58)), (a_t_isKept, .inl (cZ, 2, .inl (upd s_t_isKept (0 : Int32).toNatClampNeg (0 : Int32)))), (a_t_paper, .inl (cI, 24, .inl s_t_paper_22))] H := hP
          have hD : va_D A [(a_t, .inr (4, [.ref a_t_text, .int x1.2.1.1, .int x1.2.1.2.2.2.2.2.2.1, .ref a_t_paper, .ref a_t_now, .ref a_t_trial, .ref a_t_diary, .int (0 : Int32), .int x1.2.1.2.2.2.1, .ref a_t_kept, .ref a_t_isKept, .ref a_t_seenAt, .int x1.2.1.2.2.2.2.1, .long x1.2.1.2.2.2.2.2.2.2.2.2, .ref a_t_worth, .int x1.2.1.2.2.2.2.2.1, .int x1.2.1.2.2.2.2.2.2.1, .ref a_t_readPaper, .ref a_t_read, .int x1.2.1.2.2.2.2.2.2.2.1, .int x1.2.1.2.2.2.2.2.2.2.2.1])), (a_t_text, .inl (cI, 99, .inl s_t_text)), (a_t_read, .inl (cI, 66, .inl x1.2.2.1)), (a_t_readPaper, .inl (cI, 24, .inl x1.2.2.2)), (a_t_now, .inl (cI, 66, .inl x58)), (a_t_isKept, .inl (cZ, 2, .inl (upd s_t_isKept (0 : Int32).toNatClampNeg (0 : Int32)))), (a_t_paper, .inl (cI, 24, .inl s_t_paper_22))] := hD
          refine lv_aload_n hx hb dX4_tree_73 rfl (lv_at hl 0 rfl) ?_
          refine va_get (D := (dC, dI)) (ci := 4) (v := .ref a_t_isKept) (C := RX4) (T := TX4) (N := 21) hx hb hU inlX4 hown hE.1 hP 0 rfl rfl 10 (by decide) (hU _ u_4_20) (fun _ h9 => h9) rfl dX4_tree_74 ?_
          refine lv_iconst (v := (1 : Int32)) hx hb dX4_tree_77 (by decide) ?_
          refine lv_iconst (v := (0 : Int32)) hx hb dX4_tree_78 (by decide) ?_
          obtain ⟨g79, hM⟩ := wr_e hM
          refine va_zast hx hb hE.1 hP hD hS 5 2 rfl rfl g79 dX4_tree_79 (fun H locs hP hD hS => ?_)
          have hP : va_P (dC, dI) vwCl [(a_t, .inr (4, [.ref a_t_text, .int x1.2.1.1, .int x1.2.1.2.2.2.2.2.2.1, .ref a_t_paper, .ref a_t_now, .ref a_t_trial, .ref a_t_diary, .int (0 : Int32), .int x1.2.1.2.2.2.1, .ref a_t_kept, .ref a_t_isKept, .ref a_t_seenAt, .int x1.2.1.2.2.2.2.1, .long x1.2.1.2.2.2.2.2.2.2.2.2, .ref a_t_worth, .int x1.2.1.2.2.2.2.2.1, .int x1.2.1.2.2.2.2.2.2.1, .ref a_t_readPaper, .ref a_t_read, .int x1.2.1.2.2.2.2.2.2.2.1, .int x1.2.1.2.2.2.2.2.2.2.2.1])), (a_t_text, .inl (cI, 99, .inl s_t_text)), (a_t_read, .inl (cI, 66, .inl x1.2.2.1)), (a_t_readPaper, .inl (cI, 24, .inl x1.2.2.2)), (a_t_now, .inl (cI, 66, .inl x58)), (a_t_isKept, .inl (cZ, 2, .inl (upd (upd s_t_isKept (0 : Int32).toNatClampNeg (0 : Int32)) (1 : Int32).toNatClampNeg (0 : Int32)))), (a_t_paper, .inl (cI, 24, .inl s_t_paper_22))] H := hP
          have hD : va_D A [(a_t, .inr (4, [.ref a_t_text, .int x1.2.1.1, .int x1.2.1.2.2.2.2.2.2.1, .ref a_t_paper, .ref a_t_now, .ref a_t_trial, .ref a_t_diary, .int (0 : Int32), .int x1.2.1.2.2.2.1, .ref a_t_kept, .ref a_t_isKept, .ref a_t_seenAt, .int x1.2.1.2.2.2.2.1, .long x1.2.1.2.2.2.2.2.2.2.2.2, .ref a_t_worth, .int x1.2.1.2.2.2.2.2.1, .int x1.2.1.2.2.2.2.2.2.1, .ref a_t_readPaper, .ref a_t_read, .int x1.2.1.2.2.2.2.2.2.2.1, .int x1.2.1.2.2.2.2.2.2.2.2.1])), (a_t_text, .inl (cI, 99, .inl s_t_text)), (a_t_read, .inl (cI, 66, .inl x1.2.2.1)), (a_t_readPaper, .inl (cI, 24, .inl x1.2.2.2)), (a_t_now, .inl (cI, 66, .inl x58)), (a_t_isKept, .inl (cZ, 2, .inl (upd (upd s_t_isKept (0 : Int32).toNatClampNeg (0 : Int32)) (1 : Int32).toNatClampNeg (0 : Int32)))), (a_t_paper, .inl (cI, 24, .inl s_t_paper_22))] := hD
          refine lv_aload_n hx hb dX4_tree_80 rfl (lv_at hl 0 rfl) ?_
          refine va_get (D := (dC, dI)) (ci := 4) (v := .int x1.2.1.2.2.2.2.2.2.1) (C := RX4) (T := TX4) (N := 21) hx hb hU inlX4 hown hE.1 hP 0 rfl rfl 2 (by decide) (hU _ u_5_1) (fun _ h9 => h9) rfl dX4_tree_81 ?_
          cases hM
          exact rt _ _ _ _ _ hP hS dX4_tree_84 rfl
        · have hM := ite_f c29 hM
          refine lv_aload_n hx hb dX4_tree_32 rfl (lv_at hl 0 rfl) ?_
          refine va_get (D := (dC, dI)) (ci := 4) (v := .ref a_t_paper) (C := RX4) (T := TX4) (N := 21) hx hb hU inlX4 hown hE.1 hP 0 rfl rfl 3 (by decide) (hU _ u_4_14) (fun _ h9 => h9) rfl dX4_tree_33 ?_
          refine lv_iload_n hx hb dX4_tree_36 rfl (lv_at hl 1 rfl) ?_
          refine lv_aload_n hx hb dX4_tree_37 rfl (lv_at hl 0 rfl) ?_
          refine va_get (D := (dC, dI)) (ci := 4) (v := .ref a_t_readPaper) (C := RX4) (T := TX4) (N := 21) hx hb hU inlX4 hown hE.1 hP 0 rfl rfl 17 (by decide) (hU _ u_4_23) (fun _ h9 => h9) rfl dX4_tree_38 ?_
          refine lv_iload_n hx hb dX4_tree_41 rfl (lv_at hl 1 rfl) ?_
          obtain ⟨g42, hM⟩ := rd_e hM
          refine va_iald hx hb hE.1 hP 3 0 rfl rfl g42 dX4_tree_42 ?_
          obtain ⟨g43, hM⟩ := wr_e hM
          refine va_iast hx hb hE.1 hP hD hS 6 0 rfl rfl g43 dX4_tree_43 (fun H locs hP hD hS => ?_)
          have hP : va_P (dC, dI) vwCl [(a_t, .inr (4, [.ref a_t_text, .int x1.2.1.1, .int x1.2.1.2.2.2.2.2.2.1, .ref a_t_paper, .ref a_t_now, .ref a_t_trial, .ref a_t_diary, .int x1.2.1.2.2.1, .int x1.2.1.2.2.2.1, .ref a_t_kept, .ref a_t_isKept, .ref a_t_seenAt, .int x1.2.1.2.2.2.2.1, .long x1.2.1.2.2.2.2.2.2.2.2.2, .ref a_t_worth, .int x1.2.1.2.2.2.2.2.1, .int x1.2.1.2.2.2.2.2.2.1, .ref a_t_readPaper, .ref a_t_read, .int x1.2.1.2.2.2.2.2.2.2.1, .int x1.2.1.2.2.2.2.2.2.2.2.1])), (a_t_text, .inl (cI, 99, .inl s_t_text)), (a_t_read, .inl (cI, 66, .inl x1.2.2.1)), (a_t_readPaper, .inl (cI, 24, .inl x1.2.2.2)), (a_t_now, .inl (cI, 66, .inl s_t_now)), (a_t_isKept, .inl (cZ, 2, .inl s_t_isKept)), (a_t_paper, .inl (cI, 24, .inl (upd s_t_paper_22 v1_22.toNatClampNeg (x1.2.2.2 v1_22.toNatClampNeg))))] H := hP
          have hD : va_D A [(a_t, .inr (4, [.ref a_t_text, .int x1.2.1.1, .int x1.2.1.2.2.2.2.2.2.1, .ref a_t_paper, .ref a_t_now, .ref a_t_trial, .ref a_t_diary, .int x1.2.1.2.2.1, .int x1.2.1.2.2.2.1, .ref a_t_kept, .ref a_t_isKept, .ref a_t_seenAt, .int x1.2.1.2.2.2.2.1, .long x1.2.1.2.2.2.2.2.2.2.2.2, .ref a_t_worth, .int x1.2.1.2.2.2.2.2.1, .int x1.2.1.2.2.2.2.2.2.1, .ref a_t_readPaper, .ref a_t_read, .int x1.2.1.2.2.2.2.2.2.2.1, .int x1.2.1.2.2.2.2.2.2.2.2.1])), (a_t_text, .inl (cI, 99, .inl s_t_text)), (a_t_read, .inl (cI, 66, .inl x1.2.2.1)), (a_t_readPaper, .inl (cI, 24, .inl x1.2.2.2)), (a_t_now, .inl (cI, 66, .inl s_t_now)), (a_t_isKept, .inl (cZ, 2, .inl s_t_isKept)), (a_t_paper, .inl (cI, 24, .inl (upd s_t_paper_22 v1_22.toNatClampNeg (x1.2.2.2 v1_22.toNatClampNeg))))] := hD
          refine lv_iinc (v := (v1_22 + (1 : Int32))) (lv' := [(1, .int (v1_22 + (1 : Int32))), (0, .ref a_t)]) hx hb dX4_tree_44 hl (k := 1) rfl rfl (by decide) rfl (fun ls hl => ?_)
          refine lv_goto (tgt := 22) hx hb dX4_tree_47 (by decide) ?_
          exact ih_22 (v1_22 + (1 : Int32)) (upd s_t_paper_22 v1_22.toNatClampNeg (x1.2.2.2 v1_22.toNatClampNeg)) hM ls _ _ hP hD hS (lv_sub hl [1, 0] rfl)
    exact w_22 FU (4 : Int32) s_t_paper hM ls _ _ hP hD hS (lv_sub hl [1, 0] rfl)
  · have hM := ite_f c6 hM
    refine lv_bipush (v := (-3 : Int32)) hx hb dX4_tree_9 (by decide) ?_
    cases hM
    exact rt _ _ _ _ _ hP hS dX4_tree_11 rfl
noncomputable def mX4_undo_b38 (s_t : Int32 × Int32 × Int32 × Int32 × Int32 × Int32 × Int32 × Int32 × Int32 × Int64) (s_t_diary : Nat → Int32) : Nat → Int32 → (Nat → Int32) → Option (Int32 × (Int32 × Int32 × Int32 × Int32 × Int32 × Int32 × Int32 × Int32 × Int32 × Int64) × (Nat → Int32))
  | 0, _, _ => none
  | n + 1, v1, s_t_now => (if (66 : Int32) ≤ v1 then some (s_t.2.2.1, s_t, s_t_now) else rd s_t_diary 924 (((66 : Int32) * s_t.2.2.2.1) + v1) (fun x62 => wr s_t_now 66 v1 x62 (fun x63 => mX4_undo_b38 s_t s_t_diary n (v1 + (1 : Int32)) x63)))
noncomputable def mX4_undo (s_t : Int32 × Int32 × Int32 × Int32 × Int32 × Int32 × Int32 × Int32 × Int32 × Int64) (s_t_diary : Nat → Int32) (s_t_now : Nat → Int32) : Option (Int32 × (Int32 × Int32 × Int32 × Int32 × Int32 × Int32 × Int32 × Int32 × Int32 × Int64) × (Nat → Int32)) := (if s_t.2.2.1 = 0 then some ((-3 : Int32), s_t, s_t_now) else bnd (((s_t.2.2.2.1 + (14 : Int32)) - (1 : Int32)) - ((s_t.2.2.2.1 + (14 : Int32)) - (1 : Int32)) / (14 : Int32) * (14 : Int32)) (fun z33 => mX4_undo_b38 (s_t.1, s_t.2.1, (s_t.2.2.1 - (1 : Int32)), z33, s_t.2.2.2.2.1, s_t.2.2.2.2.2.1, s_t.2.2.2.2.2.2.1, s_t.2.2.2.2.2.2.2.1, s_t.2.2.2.2.2.2.2.2.1, s_t.2.2.2.2.2.2.2.2.2) s_t_diary FU (0 : Int32) s_t_now))
set_option maxHeartbeats 4000000 in
set_option maxRecDepth 100000 in
theorem okX4_undo {l : Launch} {dC : Nat → ClassId} {dI : Nat → Nat → Nat} {cI cC cZ : ClassId} (a_t a_t_text a_t_paper a_t_now a_t_trial a_t_diary a_t_kept a_t_isKept a_t_seenAt a_t_worth a_t_readPaper a_t_read : Nat) (s_t : Int32 × Int32 × Int32 × Int32 × Int32 × Int32 × Int32 × Int32 × Int32 × Int64) (s_t_diary : Nat → Int32) (s_t_now : Nat → Int32) (res : Int32 × (Int32 × Int32 × Int32 × Int32 × Int32 × Int32 × Int32 × Int32 × Int32 × Int64) × (Nat → Int32)) (hM : mX4_undo s_t s_t_diary s_t_now = some res) : Mu l yX4_undo cX4_undo 2 (some .int) 0 0 (dC, dI) cI cC cZ [(a_t, .inr (4, [.ref a_t_text, .int s_t.1, .int s_t.2.1, .ref a_t_paper, .ref a_t_now, .ref a_t_trial, .ref a_t_diary, .int s_t.2.2.1, .int s_t.2.2.2.1, .ref a_t_kept, .ref a_t_isKept, .ref a_t_seenAt, .int s_t.2.2.2.2.1, .long s_t.2.2.2.2.2.2.2.2.2, .ref a_t_worth, .int s_t.2.2.2.2.2.1, .int s_t.2.2.2.2.2.2.1, .ref a_t_readPaper, .ref a_t_read, .int s_t.2.2.2.2.2.2.2.1, .int s_t.2.2.2.2.2.2.2.2.1])), (a_t_diary, .inl (cI, 924, .inl s_t_diary)), (a_t_now, .inl (cI, 66, .inl s_t_now))] [(a_t, .inr (4, [.ref a_t_text, .int res.2.1.1, .int res.2.1.2.1, .ref a_t_paper, .ref a_t_now, .ref a_t_trial, .ref a_t_diary, .int res.2.1.2.2.1, .int res.2.1.2.2.2.1, .ref a_t_kept, .ref a_t_isKept, .ref a_t_seenAt, .int res.2.1.2.2.2.2.1, .long res.2.1.2.2.2.2.2.2.2.2.2, .ref a_t_worth, .int res.2.1.2.2.2.2.2.1, .int res.2.1.2.2.2.2.2.2.1, .ref a_t_readPaper, .ref a_t_read, .int res.2.1.2.2.2.2.2.2.2.1, .int res.2.1.2.2.2.2.2.2.2.2.1])), (a_t_diary, .inl (cI, 924, .inl s_t_diary)), (a_t_now, .inl (cI, 66, .inl res.2.2))] [.ref a_t] (some (.int res.1)) := by
  refine Mu.ofI (by decide) (Nat.le_of_ble_eq_true rfl) [(0, .ref a_t)] rfl ?_
  intro p e s m args below meth c ls Q A hx hb hml hown hU hE hP hD hS hA rt hl
  have hown : s.vm.findClass RX4 = some m.cls := hown
  unfold mX4_undo at hM
  refine lv_aload_n hx hb dX4_undo_0 rfl (lv_at hl 0 rfl) ?_
  refine va_get (D := (dC, dI)) (ci := 4) (v := .int s_t.2.2.1) (C := RX4) (T := TX4) (N := 21) hx hb hU inlX4 hown hE.1 hP 0 rfl rfl 7 (by decide) (hU _ u_11_10) (fun _ h9 => h9) rfl dX4_undo_1 ?_
  refine lv_if_ne (tgt := 10) hx hb dX4_undo_4 (by decide) (fun c4 => ?_) (fun c4 => ?_)
  · have hM := ite_f c4 hM
    refine lv_aload_n hx hb dX4_undo_10 rfl (lv_at hl 0 rfl) ?_
    refine lv_dup hx hb dX4_undo_11 rfl ?_
    refine va_get (D := (dC, dI)) (ci := 4) (v := .int s_t.2.2.1) (C := RX4) (T := TX4) (N := 21) hx hb hU inlX4 hown hE.1 hP 0 rfl rfl 7 (by decide) (hU _ u_11_10) (fun _ h9 => h9) rfl dX4_undo_12 ?_
    refine lv_iconst (v := (1 : Int32)) hx hb dX4_undo_15 (by decide) ?_
    refine lv_isub hx hb dX4_undo_16 ?_
    refine va_put (D := (dC, dI)) (ci := 4) (v := .int (s_t.2.2.1 - (1 : Int32))) (ty := .int) (C := RX4) (T := TX4) (N := 21) hx hb hU inlX4 tyX4 tyX4_ok nmX4 hown hE.1 hP hD hS 0 rfl rfl 7 (by decide) (hU _ u_11_10) (fun _ h9 => h9) rfl (tyX4_ok 7 (by decide)) rfl rfl (Nat.le_of_ble_eq_true rfl) dX4_undo_17 (fun H locs hP hD hS => ?_)
    have hP : va_P (dC, dI) vwCl [(a_t, .inr (4, [.ref a_t_text, .int s_t.1, .int s_t.2.1, .ref a_t_paper, .ref a_t_now, .ref a_t_trial, .ref a_t_diary, .int (s_t.2.2.1 - (1 : Int32)), .int s_t.2.2.2.1, .ref a_t_kept, .ref a_t_isKept, .ref a_t_seenAt, .int s_t.2.2.2.2.1, .long s_t.2.2.2.2.2.2.2.2.2, .ref a_t_worth, .int s_t.2.2.2.2.2.1, .int s_t.2.2.2.2.2.2.1, .ref a_t_readPaper, .ref a_t_read, .int s_t.2.2.2.2.2.2.2.1, .int s_t.2.2.2.2.2.2.2.2.1])), (a_t_diary, .inl (cI, 924, .inl s_t_diary)), (a_t_now, .inl (cI, 66, .inl s_t_now))] H := hP
    have hD : va_D A [(a_t, .inr (4, [.ref a_t_text, .int s_t.1, .int s_t.2.1, .ref a_t_paper, .ref a_t_now, .ref a_t_trial, .ref a_t_diary, .int (s_t.2.2.1 - (1 : Int32)), .int s_t.2.2.2.1, .ref a_t_kept, .ref a_t_isKept, .ref a_t_seenAt, .int s_t.2.2.2.2.1, .long s_t.2.2.2.2.2.2.2.2.2, .ref a_t_worth, .int s_t.2.2.2.2.2.1, .int s_t.2.2.2.2.2.2.1, .ref a_t_readPaper, .ref a_t_read, .int s_t.2.2.2.2.2.2.2.1, .int s_t.2.2.2.2.2.2.2.2.1])), (a_t_diary, .inl (cI, 924, .inl s_t_diary)), (a_t_now, .inl (cI, 66, .inl s_t_now))] := hD
    refine lv_aload_n hx hb dX4_undo_20 rfl (lv_at hl 0 rfl) ?_
    refine lv_aload_n hx hb dX4_undo_21 rfl (lv_at hl 0 rfl) ?_
    refine va_get (D := (dC, dI)) (ci := 4) (v := .int s_t.2.2.2.1) (C := RX4) (T := TX4) (N := 21) hx hb hU inlX4 hown hE.1 hP 0 rfl rfl 8 (by decide) (hU _ u_19_4) (fun _ h9 => h9) rfl dX4_undo_22 ?_
    refine lv_bipush (v := (14 : Int32)) hx hb dX4_undo_25 (by decide) ?_
    refine lv_iadd hx hb dX4_undo_27 ?_
    refine lv_iconst (v := (1 : Int32)) hx hb dX4_undo_28 (by decide) ?_
    refine lv_isub hx hb dX4_undo_29 ?_
    refine lv_bipush (v := (14 : Int32)) hx hb dX4_undo_30 (by decide) ?_
    refine lv_irem hx hb dX4_undo_32 (by decide) ?_
    obtain ⟨z33, ez33, hM⟩ := bnd_e hM
    rw [← ez33]
    refine va_put (D := (dC, dI)) (ci := 4) (v := .int z33) (ty := .int) (C := RX4) (T := TX4) (N := 21) hx hb hU inlX4 tyX4 tyX4_ok nmX4 hown hE.1 hP hD hS 0 rfl rfl 8 (by decide) (hU _ u_19_4) (fun _ h9 => h9) rfl (tyX4_ok 8 (by decide)) rfl rfl (Nat.le_of_ble_eq_true rfl) dX4_undo_33 (fun H locs hP hD hS => ?_)
    have hP : va_P (dC, dI) vwCl [(a_t, .inr (4, [.ref a_t_text, .int s_t.1, .int s_t.2.1, .ref a_t_paper, .ref a_t_now, .ref a_t_trial, .ref a_t_diary, .int (s_t.2.2.1 - (1 : Int32)), .int z33, .ref a_t_kept, .ref a_t_isKept, .ref a_t_seenAt, .int s_t.2.2.2.2.1, .long s_t.2.2.2.2.2.2.2.2.2, .ref a_t_worth, .int s_t.2.2.2.2.2.1, .int s_t.2.2.2.2.2.2.1, .ref a_t_readPaper, .ref a_t_read, .int s_t.2.2.2.2.2.2.2.1, .int s_t.2.2.2.2.2.2.2.2.1])), (a_t_diary, .inl (cI, 924, .inl s_t_diary)), (a_t_now, .inl (cI, 66, .inl s_t_now))] H := hP
    have hD : va_D A [(a_t, .inr (4, [.ref a_t_text, .int s_t.1, .int s_t.2.1, .ref a_t_paper, .ref a_t_now, .ref a_t_trial, .ref a_t_diary, .int (s_t.2.2.1 - (1 : Int32)), .int z33, .ref a_t_kept, .ref a_t_isKept, .ref a_t_seenAt, .int s_t.2.2.2.2.1, .long s_t.2.2.2.2.2.2.2.2.2, .ref a_t_worth, .int s_t.2.2.2.2.2.1, .int s_t.2.2.2.2.2.2.1, .ref a_t_readPaper, .ref a_t_read, .int s_t.2.2.2.2.2.2.2.1, .int s_t.2.2.2.2.2.2.2.2.1])), (a_t_diary, .inl (cI, 924, .inl s_t_diary)), (a_t_now, .inl (cI, 66, .inl s_t_now))] := hD
    refine lv_iconst (v := (0 : Int32)) hx hb dX4_undo_36 (by decide) ?_
    refine lv_istore_n (lv' := [(1, .int (0 : Int32)), (0, .ref a_t)]) hx hb dX4_undo_37 rfl hl (by decide) rfl (fun ls hl => ?_)
    have w_38 : ∀ (n : Nat) (v1_38 : Int32) (s_t_now_38 : Nat → Int32), mX4_undo_b38 (s_t.1, s_t.2.1, (s_t.2.2.1 - (1 : Int32)), z33, s_t.2.2.2.2.1, s_t.2.2.2.2.2.1, s_t.2.2.2.2.2.2.1, s_t.2.2.2.2.2.2.2.1, s_t.2.2.2.2.2.2.2.2.1, s_t.2.2.2.2.2.2.2.2.2) s_t_diary n v1_38 s_t_now_38 = some res → ∀ (ls : Array Slot) (H : Heap) (locs : List Loc), va_P (dC, dI) vwCl [(a_t, .inr (4, [.ref a_t_text, .int s_t.1, .int s_t.2.1, .ref a_t_paper, .ref a_t_now, .ref a_t_trial, .ref a_t_diary, .int (s_t.2.2.1 - (1 : Int32)), .int z33, .ref a_t_kept, .ref a_t_isKept, .ref a_t_seenAt, .int s_t.2.2.2.2.1, .long s_t.2.2.2.2.2.2.2.2.2, .ref a_t_worth, .int s_t.2.2.2.2.2.1, .int s_t.2.2.2.2.2.2.1, .ref a_t_readPaper, .ref a_t_read, .int s_t.2.2.2.2.2.2.2.1, .int s_t.2.2.2.2.2.2.2.2.1])), (a_t_diary, .inl (cI, 924, .inl s_t_diary)), (a_t_now, .inl (cI, 66, .inl s_t_now_38))] H → va_D A [(a_t, .inr (4, [.ref a_t_text, .int s_t.1, .int s_t.2.1, .ref a_t_paper, .ref a_t_now, .ref a_t_trial, .ref a_t_diary, .int (s_t.2.2.1 - (1 : Int32)), .int z33, .ref a_t_kept, .ref a_t_isKept, .ref a_t_seenAt, .int s_t.2.2.2.2.1, .long s_t.2.2.2.2.2.2.2.2.2, .ref a_t_worth, .int s_t.2.2.2.2.2.1, .int s_t.2.2.2.2.2.2.1, .ref a_t_readPaper, .ref a_t_read, .int s_t.2.2.2.2.2.2.2.1, .int s_t.2.2.2.2.2.2.2.2.1])), (a_t_diary, .inl (cI, 924, .inl s_t_diary)), (a_t_now, .inl (cI, 66, .inl s_t_now_38))] → va_S A s.heap H locs → lv_has ls 2 [(0, .ref a_t), (1, .int v1_38)] → W p l e (RM 0 0) s m args below meth c H locs 0 0 Q (F0 m 38 ls []) := by
      intro n
      induction n with
      | zero =>
        intro v1_38 s_t_now_38 hM
        rw [mX4_undo_b38] at hM
        cases hM
      | succ n_38 ih_38 =>
        intro v1_38 s_t_now_38 hM ls H locs hP hD hS hl
        rw [mX4_undo_b38] at hM
        refine lv_iload_n hx hb dX4_undo_38 rfl (lv_at hl 1 rfl) ?_
        refine lv_bipush (v := (66 : Int32)) hx hb dX4_undo_39 (by decide) ?_
        refine lv_icmp_ge (tgt := 70) hx hb dX4_undo_41 (by decide) (fun c41 => ?_) (fun c41 => ?_)
        · have hM := ite_t c41 hM
          refine lv_aload_n hx hb dX4_undo_70 rfl (lv_at hl 0 rfl) ?_
          refine va_get (D := (dC, dI)) (ci := 4) (v := .int (s_t.2.2.1 - (1 : Int32))) (C := RX4) (T := TX4) (N := 21) hx hb hU inlX4 hown hE.1 hP 0 rfl rfl 7 (by decide) (hU _ u_11_10) (fun _ h9 => h9) rfl dX4_undo_71 ?_
          cases hM
          exact rt _ _ _ _ _ hP hS dX4_undo_74 rfl
        · have hM := ite_f c41 hM
          refine lv_aload_n hx hb dX4_undo_44 rfl (lv_at hl 0 rfl) ?_
          refine va_get (D := (dC, dI)) (ci := 4) (v := .ref a_t_now) (C := RX4) (T := TX4) (N := 21) hx hb hU inlX4 hown hE.1 hP 0 rfl rfl 4 (by decide) (hU _ u_4_15) (fun _ h9 => h9) rfl dX4_undo_45 ?_
          refine lv_iload_n hx hb dX4_undo_48 rfl (lv_at hl 1 rfl) ?_
          refine lv_aload_n hx hb dX4_undo_49 rfl (lv_at hl 0 rfl) ?_
          refine va_get (D := (dC, dI)) (ci := 4) (v := .ref a_t_diary) (C := RX4) (T := TX4) (N := 21) hx hb hU inlX4 hown hE.1 hP 0 rfl rfl 6 (by decide) (hU _ u_4_17) (fun _ h9 => h9) rfl dX4_undo_50 ?_
          refine lv_bipush (v := (66 : Int32)) hx hb dX4_undo_53 (by decide) ?_
          refine lv_aload_n hx hb dX4_undo_55 rfl (lv_at hl 0 rfl) ?_
          refine va_get (D := (dC, dI)) (ci := 4) (v := .int z33) (C := RX4) (T := TX4) (N := 21) hx hb hU inlX4 hown hE.1 hP 0 rfl rfl 8 (by decide) (hU _ u_19_4) (fun _ h9 => h9) rfl dX4_undo_56 ?_
          refine lv_imul hx hb dX4_undo_59 ?_
          refine lv_iload_n hx hb dX4_undo_60 rfl (lv_at hl 1 rfl) ?_
          refine lv_iadd hx hb dX4_undo_61 ?_
          obtain ⟨g62, hM⟩ := rd_e hM
          refine va_iald hx hb hE.1 hP 1 0 rfl rfl g62 dX4_undo_62 ?_
          obtain ⟨g63, hM⟩ := wr_e hM
          refine va_iast hx hb hE.1 hP hD hS 2 0 rfl rfl g63 dX4_undo_63 (fun H locs hP hD hS => ?_)
          have hP : va_P (dC, dI) vwCl [(a_t, .inr (4, [.ref a_t_text, .int s_t.1, .int s_t.2.1, .ref a_t_paper, .ref a_t_now, .ref a_t_trial, .ref a_t_diary, .int (s_t.2.2.1 - (1 : Int32)), .int z33, .ref a_t_kept, .ref a_t_isKept, .ref a_t_seenAt, .int s_t.2.2.2.2.1, .long s_t.2.2.2.2.2.2.2.2.2, .ref a_t_worth, .int s_t.2.2.2.2.2.1, .int s_t.2.2.2.2.2.2.1, .ref a_t_readPaper, .ref a_t_read, .int s_t.2.2.2.2.2.2.2.1, .int s_t.2.2.2.2.2.2.2.2.1])), (a_t_diary, .inl (cI, 924, .inl s_t_diary)), (a_t_now, .inl (cI, 66, .inl (upd s_t_now_38 v1_38.toNatClampNeg (s_t_diary (((66 : Int32) * z33) + v1_38).toNatClampNeg))))] H := hP
          have hD : va_D A [(a_t, .inr (4, [.ref a_t_text, .int s_t.1, .int s_t.2.1, .ref a_t_paper, .ref a_t_now, .ref a_t_trial, .ref a_t_diary, .int (s_t.2.2.1 - (1 : Int32)), .int z33, .ref a_t_kept, .ref a_t_isKept, .ref a_t_seenAt, .int s_t.2.2.2.2.1, .long s_t.2.2.2.2.2.2.2.2.2, .ref a_t_worth, .int s_t.2.2.2.2.2.1, .int s_t.2.2.2.2.2.2.1, .ref a_t_readPaper, .ref a_t_read, .int s_t.2.2.2.2.2.2.2.1, .int s_t.2.2.2.2.2.2.2.2.1])), (a_t_diary, .inl (cI, 924, .inl s_t_diary)), (a_t_now, .inl (cI, 66, .inl (upd s_t_now_38 v1_38.toNatClampNeg (s_t_diary (((66 : Int32) * z33) + v1_38).toNatClampNeg))))] := hD
          refine lv_iinc (v := (v1_38 + (1 : Int32))) (lv' := [(1, .int (v1_38 + (1 : Int32))), (0, .ref a_t)]) hx hb dX4_undo_64 hl (k := 1) rfl rfl (by decide) rfl (fun ls hl => ?_)
          refine lv_goto (tgt := 38) hx hb dX4_undo_67 (by decide) ?_
          exact ih_38 (v1_38 + (1 : Int32)) (upd s_t_now_38 v1_38.toNatClampNeg (s_t_diary (((66 : Int32) * z33) + v1_38).toNatClampNeg)) hM ls _ _ hP hD hS (lv_sub hl [1, 0] rfl)
    exact w_38 FU (0 : Int32) s_t_now hM ls _ _ hP hD hS (lv_sub hl [1, 0] rfl)
  · have hM := ite_t c4 hM
    refine lv_bipush (v := (-3 : Int32)) hx hb dX4_undo_7 (by decide) ?_
    cases hM
    exact rt _ _ _ _ _ hP hS dX4_undo_9 rfl
noncomputable def mX4_unsee (s_t : Int32 × Int32 × Int32 × Int32 × Int32 × Int32 × Int32 × Int32 × Int32 × Int64) : Option (Int32 × (Int32 × Int32 × Int32 × Int32 × Int32 × Int32 × Int32 × Int32 × Int32 × Int64)) := some (s_t.2.2.2.2.1, (s_t.1, s_t.2.1, s_t.2.2.1, s_t.2.2.2.1, (0 : Int32), s_t.2.2.2.2.2.1, s_t.2.2.2.2.2.2.1, s_t.2.2.2.2.2.2.2.1, s_t.2.2.2.2.2.2.2.2.1, s_t.2.2.2.2.2.2.2.2.2))
set_option maxHeartbeats 4000000 in
set_option maxRecDepth 100000 in
theorem okX4_unsee {l : Launch} {dC : Nat → ClassId} {dI : Nat → Nat → Nat} {cI cC cZ : ClassId} (a_t a_t_text a_t_paper a_t_now a_t_trial a_t_diary a_t_kept a_t_isKept a_t_seenAt a_t_worth a_t_readPaper a_t_read : Nat) (s_t : Int32 × Int32 × Int32 × Int32 × Int32 × Int32 × Int32 × Int32 × Int32 × Int64) (res : Int32 × (Int32 × Int32 × Int32 × Int32 × Int32 × Int32 × Int32 × Int32 × Int32 × Int64)) (hM : mX4_unsee s_t = some res) : Mu l yX4_unsee cX4_unsee 2 (some .int) 0 0 (dC, dI) cI cC cZ [(a_t, .inr (4, [.ref a_t_text, .int s_t.1, .int s_t.2.1, .ref a_t_paper, .ref a_t_now, .ref a_t_trial, .ref a_t_diary, .int s_t.2.2.1, .int s_t.2.2.2.1, .ref a_t_kept, .ref a_t_isKept, .ref a_t_seenAt, .int s_t.2.2.2.2.1, .long s_t.2.2.2.2.2.2.2.2.2, .ref a_t_worth, .int s_t.2.2.2.2.2.1, .int s_t.2.2.2.2.2.2.1, .ref a_t_readPaper, .ref a_t_read, .int s_t.2.2.2.2.2.2.2.1, .int s_t.2.2.2.2.2.2.2.2.1]))] [(a_t, .inr (4, [.ref a_t_text, .int res.2.1, .int res.2.2.1, .ref a_t_paper, .ref a_t_now, .ref a_t_trial, .ref a_t_diary, .int res.2.2.2.1, .int res.2.2.2.2.1, .ref a_t_kept, .ref a_t_isKept, .ref a_t_seenAt, .int res.2.2.2.2.2.1, .long res.2.2.2.2.2.2.2.2.2.2, .ref a_t_worth, .int res.2.2.2.2.2.2.1, .int res.2.2.2.2.2.2.2.1, .ref a_t_readPaper, .ref a_t_read, .int res.2.2.2.2.2.2.2.2.1, .int res.2.2.2.2.2.2.2.2.2.1]))] [.ref a_t] (some (.int res.1)) := by
  refine Mu.ofI (by decide) (Nat.le_of_ble_eq_true rfl) [(0, .ref a_t)] rfl ?_
  intro p e s m args below meth c ls Q A hx hb hml hown hU hE hP hD hS hA rt hl
  have hown : s.vm.findClass RX4 = some m.cls := hown
  unfold mX4_unsee at hM
  refine lv_aload_n hx hb dX4_unsee_0 rfl (lv_at hl 0 rfl) ?_
  refine va_get (D := (dC, dI)) (ci := 4) (v := .int s_t.2.2.2.2.1) (C := RX4) (T := TX4) (N := 21) hx hb hU inlX4 hown hE.1 hP 0 rfl rfl 12 (by decide) (hU _ u_13_21) (fun _ h9 => h9) rfl dX4_unsee_1 ?_
  refine lv_istore_n (lv' := [(1, .int s_t.2.2.2.2.1), (0, .ref a_t)]) hx hb dX4_unsee_4 rfl hl (by decide) rfl (fun ls hl => ?_)
  refine lv_aload_n hx hb dX4_unsee_5 rfl (lv_at hl 1 rfl) ?_
  refine lv_iconst (v := (0 : Int32)) hx hb dX4_unsee_6 (by decide) ?_
  refine va_put (D := (dC, dI)) (ci := 4) (v := .int (0 : Int32)) (ty := .int) (C := RX4) (T := TX4) (N := 21) hx hb hU inlX4 tyX4 tyX4_ok nmX4 hown hE.1 hP hD hS 0 rfl rfl 12 (by decide) (hU _ u_13_21) (fun _ h9 => h9) rfl (tyX4_ok 12 (by decide)) rfl rfl (Nat.le_of_ble_eq_true rfl) dX4_unsee_7 (fun H locs hP hD hS => ?_)
  have hP : va_P (dC, dI) vwCl [(a_t, .inr (4, [.ref a_t_text, .int s_t.1, .int s_t.2.1, .ref a_t_paper, .ref a_t_now, .ref a_t_trial, .ref a_t_diary, .int s_t.2.2.1, .int s_t.2.2.2.1, .ref a_t_kept, .ref a_t_isKept, .ref a_t_seenAt, .int (0 : Int32), .long s_t.2.2.2.2.2.2.2.2.2, .ref a_t_worth, .int s_t.2.2.2.2.2.1, .int s_t.2.2.2.2.2.2.1, .ref a_t_readPaper, .ref a_t_read, .int s_t.2.2.2.2.2.2.2.1, .int s_t.2.2.2.2.2.2.2.2.1]))] H := hP
  have hD : va_D A [(a_t, .inr (4, [.ref a_t_text, .int s_t.1, .int s_t.2.1, .ref a_t_paper, .ref a_t_now, .ref a_t_trial, .ref a_t_diary, .int s_t.2.2.1, .int s_t.2.2.2.1, .ref a_t_kept, .ref a_t_isKept, .ref a_t_seenAt, .int (0 : Int32), .long s_t.2.2.2.2.2.2.2.2.2, .ref a_t_worth, .int s_t.2.2.2.2.2.1, .int s_t.2.2.2.2.2.2.1, .ref a_t_readPaper, .ref a_t_read, .int s_t.2.2.2.2.2.2.2.1, .int s_t.2.2.2.2.2.2.2.2.1]))] := hD
  refine lv_iload_n hx hb dX4_unsee_10 rfl (lv_at hl 0 rfl) ?_
  cases hM
  exact rt _ _ _ _ _ hP hS dX4_unsee_11 rfl
noncomputable def mX4_which_b61 (k25 : Int32 → Int32 → (Nat → Int32) → Option (Int32 × (Nat → Int32))) (s_t : Int32 × Int32 × Int32 × Int32 × Int32 × Int32 × Int32 × Int32 × Int32 × Int64) (s_t_now : Nat → Int32) (s_t_trial : Nat → Int32) (s_t_seenAt : Nat → Int32) (s_t_paper : Nat → Int32) (v1 : Int32) (v2 : Int32) (v3 : Int32) : Nat → Bool → Int32 → Option (Int32 × (Nat → Int32))
  | 0, _, _ => none
  | n + 1, v4, v5 => (if s_t.2.2.2.2.1 ≤ v5 then (if v4 = true then k25 (v2 ||| ((1 : Int32) <<< (v3 &&& 31))) (v3 + (1 : Int32)) s_t_trial else k25 (v2 ||| (0 : Int32)) (v3 + (1 : Int32)) s_t_trial) else (if v4 = true then rd s_t_seenAt 24 ((4 : Int32) * v5) (fun x88 => rd s_t_seenAt 24 (((4 : Int32) * v5) + (1 : Int32)) (fun x99 => rd s_t_seenAt 24 (((4 : Int32) * v5) + (2 : Int32)) (fun x110 => (mX4_stateOf s_t_trial s_t_paper x88 x99 x110).bind (fun x111 => rd s_t_seenAt 24 (((4 : Int32) * v5) + (3 : Int32)) (fun x124 => (if x111 = x124 then mX4_which_b61 k25 s_t s_t_now s_t_trial s_t_seenAt s_t_paper v1 v2 v3 n true (v5 + (1 : Int32)) else mX4_which_b61 k25 s_t s_t_now s_t_trial s_t_seenAt s_t_paper v1 v2 v3 n false (v5 + (1 : Int32)))))))) else mX4_which_b61 k25 s_t s_t_now s_t_trial s_t_seenAt s_t_paper v1 v2 v3 n false (v5 + (1 : Int32))))
noncomputable def mX4_which_b25 (s_t : Int32 × Int32 × Int32 × Int32 × Int32 × Int32 × Int32 × Int32 × Int32 × Int64) (s_t_now : Nat → Int32) (s_t_seenAt : Nat → Int32) (s_t_paper : Nat → Int32) (v1 : Int32) : Nat → Int32 → Int32 → (Nat → Int32) → Option (Int32 × (Nat → Int32))
  | 0, _, _, _ => none
  | n + 1, v2, v3, s_t_trial => (if (6 : Int32) ≤ v3 then some (v2, s_t_trial) else (mX4_copy s_t_now s_t_trial).bind (fun x39 => wr x39 66 (((1 : Int32) + ((5 : Int32) * v1)) + (4 : Int32)) v3 (fun x54 => mX4_which_b61 (mX4_which_b25 s_t s_t_now s_t_seenAt s_t_paper v1 n) s_t s_t_now x54 s_t_seenAt s_t_paper v1 v2 v3 FU true (0 : Int32))))
noncomputable def mX4_which (s_t : Int32 × Int32 × Int32 × Int32 × Int32 × Int32 × Int32 × Int32 × Int32 × Int64) (s_t_now : Nat → Int32) (s_t_trial : Nat → Int32) (s_t_seenAt : Nat → Int32) (s_t_paper : Nat → Int32) (v1 : Int32) : Option (Int32 × (Nat → Int32)) := (mX4_isGrant s_t_now v1).bind (fun x2 => (if x2 = true then rd s_t_now 66 (((1 : Int32) + ((5 : Int32) * v1)) + (3 : Int32)) (fun x23 => mX4_which_b25 s_t s_t_now s_t_seenAt s_t_paper v1 FU (0 : Int32) x23 s_t_trial) else some ((-1 : Int32), s_t_trial)))
set_option maxHeartbeats 4000000 in
set_option maxRecDepth 100000 in
theorem okX4_which {l : Launch} {dC : Nat → ClassId} {dI : Nat → Nat → Nat} {cI cC cZ : ClassId} (a_t a_t_text a_t_paper a_t_now a_t_trial a_t_diary a_t_kept a_t_isKept a_t_seenAt a_t_worth a_t_readPaper a_t_read : Nat) (s_t : Int32 × Int32 × Int32 × Int32 × Int32 × Int32 × Int32 × Int32 × Int32 × Int64) (s_t_now : Nat → Int32) (s_t_trial : Nat → Int32) (s_t_seenAt : Nat → Int32) (s_t_paper : Nat → Int32) (v1 : Int32) (res : Int32 × (Nat → Int32)) (hM : mX4_which s_t s_t_now s_t_trial s_t_seenAt s_t_paper v1 = some res) : Mu l yX4_which cX4_which 6 (some .int) 6 145 (dC, dI) cI cC cZ [(a_t, .inr (4, [.ref a_t_text, .int s_t.1, .int s_t.2.1, .ref a_t_paper, .ref a_t_now, .ref a_t_trial, .ref a_t_diary, .int s_t.2.2.1, .int s_t.2.2.2.1, .ref a_t_kept, .ref a_t_isKept, .ref a_t_seenAt, .int s_t.2.2.2.2.1, .long s_t.2.2.2.2.2.2.2.2.2, .ref a_t_worth, .int s_t.2.2.2.2.2.1, .int s_t.2.2.2.2.2.2.1, .ref a_t_readPaper, .ref a_t_read, .int s_t.2.2.2.2.2.2.2.1, .int s_t.2.2.2.2.2.2.2.2.1])), (a_t_now, .inl (cI, 66, .inl s_t_now)), (a_t_trial, .inl (cI, 66, .inl s_t_trial)), (a_t_seenAt, .inl (cI, 24, .inl s_t_seenAt)), (a_t_paper, .inl (cI, 24, .inl s_t_paper))] [(a_t, .inr (4, [.ref a_t_text, .int s_t.1, .int s_t.2.1, .ref a_t_paper, .ref a_t_now, .ref a_t_trial, .ref a_t_diary, .int s_t.2.2.1, .int s_t.2.2.2.1, .ref a_t_kept, .ref a_t_isKept, .ref a_t_seenAt, .int s_t.2.2.2.2.1, .long s_t.2.2.2.2.2.2.2.2.2, .ref a_t_worth, .int s_t.2.2.2.2.2.1, .int s_t.2.2.2.2.2.2.1, .ref a_t_readPaper, .ref a_t_read, .int s_t.2.2.2.2.2.2.2.1, .int s_t.2.2.2.2.2.2.2.2.1])), (a_t_now, .inl (cI, 66, .inl s_t_now)), (a_t_trial, .inl (cI, 66, .inl res.2)), (a_t_seenAt, .inl (cI, 24, .inl s_t_seenAt)), (a_t_paper, .inl (cI, 24, .inl s_t_paper))] [.ref a_t, .int v1] (some (.int res.1)) := by
  refine Mu.ofI (by decide) (Nat.le_of_ble_eq_true rfl) [(0, .ref a_t), (1, .int v1)] rfl ?_
  intro p e s m args below meth c ls Q A hx hb hml hown hU hE hP hD hS hA rt hl
  have hown : s.vm.findClass RX4 = some m.cls := hown
  unfold mX4_which at hM
  refine lv_aload_n hx hb dX4_which_0 rfl (lv_at hl 0 rfl) ?_
  refine lv_iload_n hx hb dX4_which_1 rfl (lv_at hl 1 rfl) ?_
  obtain ⟨x2, h2, hM⟩ := bind_e hM
  refine rdV (As := [.int v1]) (rest := []) (st2 := [.int (b2i x2)]) ⟨hx, hb, hml, hown, hU⟩ hE (okX4_isGrant a_t a_t_text a_t_paper a_t_now a_t_trial a_t_diary a_t_kept a_t_isKept a_t_seenAt a_t_worth a_t_readPaper a_t_read s_t s_t_now v1 x2 h2) lk_X4_169 (hP.sub [0, 1] rfl) rfl rfl rfl hl.1 rfl (Nat.le_of_ble_eq_true rfl) ⟨Nat.le_of_ble_eq_true rfl, Nat.le_of_ble_eq_true rfl⟩ dX4_which_2 ⟨Nat.le_refl _, Nat.le_refl _⟩ rfl ?_
  refine lv_if_ne (tgt := 10) hx hb dX4_which_5 (by decide) (fun c5 => ?_) (fun c5 => ?_)
  · have hM := ite_t (b2i_ne0 c5) hM
    refine lv_iconst (v := (0 : Int32)) hx hb dX4_which_10 (by decide) ?_
    refine lv_istore_n (lv' := [(2, .int (0 : Int32)), (0, .ref a_t), (1, .int v1)]) hx hb dX4_which_11 rfl hl (by decide) rfl (fun ls hl => ?_)
    refine lv_aload_n hx hb dX4_which_12 rfl (lv_at hl 1 rfl) ?_
    refine va_get (D := (dC, dI)) (ci := 4) (v := .ref a_t_now) (C := RX4) (T := TX4) (N := 21) hx hb hU inlX4 hown hE.1 hP 0 rfl rfl 4 (by decide) (hU _ u_4_15) (fun _ h9 => h9) rfl dX4_which_13 ?_
    refine lv_iconst (v := (1 : Int32)) hx hb dX4_which_16 (by decide) ?_
    refine lv_iconst (v := (5 : Int32)) hx hb dX4_which_17 (by decide) ?_
    refine lv_iload_n hx hb dX4_which_18 rfl (lv_at hl 2 rfl) ?_
    refine lv_imul hx hb dX4_which_19 ?_
    refine lv_iadd hx hb dX4_which_20 ?_
    refine lv_iconst (v := (3 : Int32)) hx hb dX4_which_21 (by decide) ?_
    refine lv_iadd hx hb dX4_which_22 ?_
    obtain ⟨g23, hM⟩ := rd_e hM
    refine va_iald hx hb hE.1 hP 1 0 rfl rfl g23 dX4_which_23 ?_
    refine lv_istore_n (lv' := [(3, .int (s_t_now (((1 : Int32) + ((5 : Int32) * v1)) + (3 : Int32)).toNatClampNeg)), (2, .int (0 : Int32)), (0, .ref a_t), (1, .int v1)]) hx hb dX4_which_24 rfl hl (by decide) rfl (fun ls hl => ?_)
    have w_25 : ∀ (n : Nat) (v2_25 : Int32) (v3_25 : Int32) (s_t_trial_25 : Nat → Int32), mX4_which_b25 s_t s_t_now s_t_seenAt s_t_paper v1 n v2_25 v3_25 s_t_trial_25 = some res → ∀ (ls : Array Slot) (H : Heap) (locs : List Loc), va_P (dC, dI) vwCl [(a_t, .inr (4, [.ref a_t_text, .int s_t.1, .int s_t.2.1, .ref a_t_paper, .ref a_t_now, .ref a_t_trial, .ref a_t_diary, .int s_t.2.2.1, .int s_t.2.2.2.1, .ref a_t_kept, .ref a_t_isKept, .ref a_t_seenAt, .int s_t.2.2.2.2.1, .long s_t.2.2.2.2.2.2.2.2.2, .ref a_t_worth, .int s_t.2.2.2.2.2.1, .int s_t.2.2.2.2.2.2.1, .ref a_t_readPaper, .ref a_t_read, .int s_t.2.2.2.2.2.2.2.1, .int s_t.2.2.2.2.2.2.2.2.1])), (a_t_now, .inl (cI, 66, .inl s_t_now)), (a_t_trial, .inl (cI, 66, .inl s_t_trial_25)), (a_t_seenAt, .inl (cI, 24, .inl s_t_seenAt)), (a_t_paper, .inl (cI, 24, .inl s_t_paper))] H → va_D A [(a_t, .inr (4, [.ref a_t_text, .int s_t.1, .int s_t.2.1, .ref a_t_paper, .ref a_t_now, .ref a_t_trial, .ref a_t_diary, .int s_t.2.2.1, .int s_t.2.2.2.1, .ref a_t_kept, .ref a_t_isKept, .ref a_t_seenAt, .int s_t.2.2.2.2.1, .long s_t.2.2.2.2.2.2.2.2.2, .ref a_t_worth, .int s_t.2.2.2.2.2.1, .int s_t.2.2.2.2.2.2.1, .ref a_t_readPaper, .ref a_t_read, .int s_t.2.2.2.2.2.2.2.1, .int s_t.2.2.2.2.2.2.2.2.1])), (a_t_now, .inl (cI, 66, .inl s_t_now)), (a_t_trial, .inl (cI, 66, .inl s_t_trial_25)), (a_t_seenAt, .inl (cI, 24, .inl s_t_seenAt)), (a_t_paper, .inl (cI, 24, .inl s_t_paper))] → va_S A s.heap H locs → lv_has ls 6 [(0, .ref a_t), (1, .int v1), (2, .int v2_25), (3, .int v3_25)] → W p l e (RM 6 145) s m args below meth c H locs 0 0 Q (F0 m 25 ls []) := by
      intro n
      induction n with
      | zero =>
        intro v2_25 v3_25 s_t_trial_25 hM
        rw [mX4_which_b25] at hM
        cases hM
      | succ n_25 ih_25 =>
        intro v2_25 v3_25 s_t_trial_25 hM ls H locs hP hD hS hl
        rw [mX4_which_b25] at hM
        refine lv_iload_n hx hb dX4_which_25 rfl (lv_at hl 3 rfl) ?_
        refine lv_bipush (v := (6 : Int32)) hx hb dX4_which_26 (by decide) ?_
        refine lv_icmp_ge (tgt := 162) hx hb dX4_which_28 (by decide) (fun c28 => ?_) (fun c28 => ?_)
        · have hM := ite_t c28 hM
          refine lv_iload_n hx hb dX4_which_162 rfl (lv_at hl 2 rfl) ?_
          cases hM
          exact rt _ _ _ _ _ hP hS dX4_which_163 rfl
        · have hM := ite_f c28 hM
          refine lv_aload_n hx hb dX4_which_31 rfl (lv_at hl 0 rfl) ?_
          refine va_get (D := (dC, dI)) (ci := 4) (v := .ref a_t_now) (C := RX4) (T := TX4) (N := 21) hx hb hU inlX4 hown hE.1 hP 0 rfl rfl 4 (by decide) (hU _ u_4_15) (fun _ h9 => h9) rfl dX4_which_32 ?_
          refine lv_aload_n hx hb dX4_which_35 rfl (lv_at hl 0 rfl) ?_
          refine va_get (D := (dC, dI)) (ci := 4) (v := .ref a_t_trial) (C := RX4) (T := TX4) (N := 21) hx hb hU inlX4 hown hE.1 hP 0 rfl rfl 5 (by decide) (hU _ u_4_16) (fun _ h9 => h9) rfl dX4_which_36 ?_
          obtain ⟨x39, h39, hM⟩ := bind_e hM
          refine muS (As := [.ref a_t_now, .ref a_t_trial]) (rest := []) (st2 := []) (nw := [(a_t, .inr (4, [.ref a_t_text, .int s_t.1, .int s_t.2.1, .ref a_t_paper, .ref a_t_now, .ref a_t_trial, .ref a_t_diary, .int s_t.2.2.1, .int s_t.2.2.2.1, .ref a_t_kept, .ref a_t_isKept, .ref a_t_seenAt, .int s_t.2.2.2.2.1, .long s_t.2.2.2.2.2.2.2.2.2, .ref a_t_worth, .int s_t.2.2.2.2.2.1, .int s_t.2.2.2.2.2.2.1, .ref a_t_readPaper, .ref a_t_read, .int s_t.2.2.2.2.2.2.2.1, .int s_t.2.2.2.2.2.2.2.2.1])), (a_t_now, .inl (cI, 66, .inl s_t_now)), (a_t_trial, .inl (cI, 66, .inl x39)), (a_t_seenAt, .inl (cI, 24, .inl s_t_seenAt)), (a_t_paper, .inl (cI, 24, .inl s_t_paper))]) ⟨hx, hb, hml, hown, hU⟩ hE (okX4_copy a_t_now a_t_trial s_t_now s_t_trial_25 x39 h39) lk_X4_113 hP hD hS hA [1, 2] rfl rfl rfl rfl hl.1 rfl (Nat.le_of_ble_eq_true rfl) ⟨Nat.le_of_ble_eq_true rfl, Nat.le_of_ble_eq_true rfl⟩ dX4_which_39 ⟨Nat.le_refl _, Nat.le_refl _⟩ rfl rfl rfl rfl (fun H locs hP hD hS => ?_)
          refine lv_aload_n hx hb dX4_which_42 rfl (lv_at hl 0 rfl) ?_
          refine va_get (D := (dC, dI)) (ci := 4) (v := .ref a_t_trial) (C := RX4) (T := TX4) (N := 21) hx hb hU inlX4 hown hE.1 hP 0 rfl rfl 5 (by decide) (hU _ u_4_16) (fun _ h9 => h9) rfl dX4_which_43 ?_
          refine lv_iconst (v := (1 : Int32)) hx hb dX4_which_46 (by decide) ?_
          refine lv_iconst (v := (5 : Int32)) hx hb dX4_which_47 (by decide) ?_
          refine lv_iload_n hx hb dX4_which_48 rfl (lv_at hl 1 rfl) ?_
          refine lv_imul hx hb dX4_which_49 ?_
          refine lv_iadd hx hb dX4_which_50 ?_
          refine lv_iconst (v := (4 : Int32)) hx hb dX4_which_51 (by decide) ?_
          refine lv_iadd hx hb dX4_which_52 ?_
          refine lv_iload_n hx hb dX4_which_53 rfl (lv_at hl 3 rfl) ?_
          obtain ⟨g54, hM⟩ := wr_e hM
          refine va_iast hx hb hE.1 hP hD hS 2 0 rfl rfl g54 dX4_which_54 (fun H locs hP hD hS => ?_)
          have hP : va_P (dC, dI) vwCl [(a_t, .inr (4, [.ref a_t_text, .int s_t.1, .int s_t.2.1, .ref a_t_paper, .ref a_t_now, .ref a_t_trial, .ref a_t_diary, .int s_t.2.2.1, .int s_t.2.2.2.1, .ref a_t_kept, .ref a_t_isKept, .ref a_t_seenAt, .int s_t.2.2.2.2.1, .long s_t.2.2.2.2.2.2.2.2.2, .ref a_t_worth, .int s_t.2.2.2.2.2.1, .int s_t.2.2.2.2.2.2.1, .ref a_t_readPaper, .ref a_t_read, .int s_t.2.2.2.2.2.2.2.1, .int s_t.2.2.2.2.2.2.2.2.1])), (a_t_now, .inl (cI, 66, .inl s_t_now)), (a_t_trial, .inl (cI, 66, .inl (upd x39 (((1 : Int32) + ((5 : Int32) * v1)) + (4 : Int32)).toNatClampNeg v3_25))), (a_t_seenAt, .inl (cI, 24, .inl s_t_seenAt)), (a_t_paper, .inl (cI, 24, .inl s_t_paper))] H := hP
          have hD : va_D A [(a_t, .inr (4, [.ref a_t_text, .int s_t.1, .int s_t.2.1, .ref a_t_paper, .ref a_t_now, .ref a_t_trial, .ref a_t_diary, .int s_t.2.2.1, .int s_t.2.2.2.1, .ref a_t_kept, .ref a_t_isKept, .ref a_t_seenAt, .int s_t.2.2.2.2.1, .long s_t.2.2.2.2.2.2.2.2.2, .ref a_t_worth, .int s_t.2.2.2.2.2.1, .int s_t.2.2.2.2.2.2.1, .ref a_t_readPaper, .ref a_t_read, .int s_t.2.2.2.2.2.2.2.1, .int s_t.2.2.2.2.2.2.2.2.1])), (a_t_now, .inl (cI, 66, .inl s_t_now)), (a_t_trial, .inl (cI, 66, .inl (upd x39 (((1 : Int32) + ((5 : Int32) * v1)) + (4 : Int32)).toNatClampNeg v3_25))), (a_t_seenAt, .inl (cI, 24, .inl s_t_seenAt)), (a_t_paper, .inl (cI, 24, .inl s_t_paper))] := hD
          refine lv_iconst (v := (1 : Int32)) hx hb dX4_which_55 (by decide) ?_
          refine lv_istore (lv' := [(4, .int (1 : Int32)), (0, .ref a_t), (1, .int v1), (2, .int v2_25), (3, .int v3_25)]) hx hb dX4_which_56 hl (by decide) rfl (fun ls hl => ?_)
          refine lv_iconst (v := (0 : Int32)) hx hb dX4_which_58 (by decide) ?_
          refine lv_istore (lv' := [(5, .int (0 : Int32)), (4, .int (1 : Int32)), (0, .ref a_t), (1, .int v1), (2, .int v2_25), (3, .int v3_25)]) hx hb dX4_which_59 hl (by decide) rfl (fun ls hl => ?_)
          have w_61 : ∀ (n : Nat) (v4_61 : Bool) (v5_61 : Int32), mX4_which_b61 (mX4_which_b25 s_t s_t_now s_t_seenAt s_t_paper v1 n_25) s_t s_t_now (upd x39 (((1 : Int32) + ((5 : Int32) * v1)) + (4 : Int32)).toNatClampNeg v3_25) s_t_seenAt s_t_paper v1 v2_25 v3_25 n v4_61 v5_61 = some res → ∀ (ls : Array Slot) (H : Heap) (locs : List Loc), va_P (dC, dI) vwCl [(a_t, .inr (4, [.ref a_t_text, .int s_t.1, .int s_t.2.1, .ref a_t_paper, .ref a_t_now, .ref a_t_trial, .ref a_t_diary, .int s_t.2.2.1, .int s_t.2.2.2.1, .ref a_t_kept, .ref a_t_isKept, .ref a_t_seenAt, .int s_t.2.2.2.2.1, .long s_t.2.2.2.2.2.2.2.2.2, .ref a_t_worth, .int s_t.2.2.2.2.2.1, .int s_t.2.2.2.2.2.2.1, .ref a_t_readPaper, .ref a_t_read, .int s_t.2.2.2.2.2.2.2.1, .int s_t.2.2.2.2.2.2.2.2.1])), (a_t_now, .inl (cI, 66, .inl s_t_now)), (a_t_trial, .inl (cI, 66, .inl (upd x39 (((1 : Int32) + ((5 : Int32) * v1)) + (4 : Int32)).toNatClampNeg v3_25))), (a_t_seenAt, .inl (cI, 24, .inl s_t_seenAt)), (a_t_paper, .inl (cI, 24, .inl s_t_paper))] H → va_D A [(a_t, .inr (4, [.ref a_t_text, .int s_t.1, .int s_t.2.1, .ref a_t_paper, .ref a_t_now, .ref a_t_trial, .ref a_t_diary, .int s_t.2.2.1, .int s_t.2.2.2.1, .ref a_t_kept, .ref a_t_isKept, .ref a_t_seenAt, .int s_t.2.2.2.2.1, .long s_t.2.2.2.2.2.2.2.2.2, .ref a_t_worth, .int s_t.2.2.2.2.2.1, .int s_t.2.2.2.2.2.2.1, .ref a_t_readPaper, .ref a_t_read, .int s_t.2.2.2.2.2.2.2.1, .int s_t.2.2.2.2.2.2.2.2.1])), (a_t_now, .inl (cI, 66, .inl s_t_now)), (a_t_trial, .inl (cI, 66, .inl (upd x39 (((1 : Int32) + ((5 : Int32) * v1)) + (4 : Int32)).toNatClampNeg v3_25))), (a_t_seenAt, .inl (cI, 24, .inl s_t_seenAt)), (a_t_paper, .inl (cI, 24, .inl s_t_paper))] → va_S A s.heap H locs → lv_has ls 6 [(0, .ref a_t), (1, .int v1), (2, .int v2_25), (3, .int v3_25), (4, .int (b2i v4_61)), (5, .int v5_61)] → W p l e (RM 6 145) s m args below meth c H locs 0 0 Q (F0 m 61 ls []) := by
            intro n
            induction n with
            | zero =>
              intro v4_61 v5_61 hM
              rw [mX4_which_b61] at hM
              cases hM
            | succ n_61 ih_61 =>
              intro v4_61 v5_61 hM ls H locs hP hD hS hl
              rw [mX4_which_b61] at hM
              refine lv_iload hx hb dX4_which_61 (lv_at hl 5 rfl) ?_
              refine lv_aload_n hx hb dX4_which_63 rfl (lv_at hl 0 rfl) ?_
              refine va_get (D := (dC, dI)) (ci := 4) (v := .int s_t.2.2.2.2.1) (C := RX4) (T := TX4) (N := 21) hx hb hU inlX4 hown hE.1 hP 0 rfl rfl 12 (by decide) (hU _ u_13_21) (fun _ h9 => h9) rfl dX4_which_64 ?_
              refine lv_icmp_ge (tgt := 141) hx hb dX4_which_67 (by decide) (fun c67 => ?_) (fun c67 => ?_)
              · have hM := ite_t c67 hM
                refine lv_iload_n hx hb dX4_which_141 rfl (lv_at hl 2 rfl) ?_
                refine lv_iload hx hb dX4_which_142 (lv_at hl 4 rfl) ?_
                refine lv_if_eq (tgt := 153) hx hb dX4_which_144 (by decide) (fun c144 => ?_) (fun c144 => ?_)
                · have hM := ite_f (b2i_eq0 c144) hM
                  refine lv_iconst (v := (0 : Int32)) hx hb dX4_which_153 (by decide) ?_
                  refine lv_ior hx hb dX4_which_154 ?_
                  refine lv_istore_n (lv' := [(2, .int (v2_25 ||| (0 : Int32))), (0, .ref a_t), (1, .int v1), (3, .int v3_25), (4, .int (b2i v4_61)), (5, .int v5_61)]) hx hb dX4_which_155 rfl hl (by decide) rfl (fun ls hl => ?_)
                  refine lv_iinc (v := (v3_25 + (1 : Int32))) (lv' := [(3, .int (v3_25 + (1 : Int32))), (2, .int (v2_25 ||| (0 : Int32))), (0, .ref a_t), (1, .int v1), (4, .int (b2i v4_61)), (5, .int v5_61)]) hx hb dX4_which_156 hl (k := 3) rfl rfl (by decide) rfl (fun ls hl => ?_)
                  refine lv_goto (tgt := 25) hx hb dX4_which_159 (by decide) ?_
                  exact ih_25 (v2_25 ||| (0 : Int32)) (v3_25 + (1 : Int32)) (upd x39 (((1 : Int32) + ((5 : Int32) * v1)) + (4 : Int32)).toNatClampNeg v3_25) hM ls _ _ hP hD hS (lv_sub hl [2, 3, 1, 0] rfl)
                · have hM := ite_t (b2i_ne0 c144) hM
                  refine lv_iconst (v := (1 : Int32)) hx hb dX4_which_147 (by decide) ?_
                  refine lv_iload_n hx hb dX4_which_148 rfl (lv_at hl 3 rfl) ?_
                  refine lv_ishl hx hb dX4_which_149 ?_
                  refine lv_goto (tgt := 154) hx hb dX4_which_150 (by decide) ?_
                  refine lv_ior hx hb dX4_which_154 ?_
                  refine lv_istore_n (lv' := [(2, .int (v2_25 ||| ((1 : Int32) <<< (v3_25 &&& 31)))), (0, .ref a_t), (1, .int v1), (3, .int v3_25), (4, .int (b2i v4_61)), (5, .int v5_61)]) hx hb dX4_which_155 rfl hl (by decide) rfl (fun ls hl => ?_)
                  refine lv_iinc (v := (v3_25 + (1 : Int32))) (lv' := [(3, .int (v3_25 + (1 : Int32))), (2, .int (v2_25 ||| ((1 : Int32) <<< (v3_25 &&& 31)))), (0, .ref a_t), (1, .int v1), (4, .int (b2i v4_61)), (5, .int v5_61)]) hx hb dX4_which_156 hl (k := 3) rfl rfl (by decide) rfl (fun ls hl => ?_)
                  refine lv_goto (tgt := 25) hx hb dX4_which_159 (by decide) ?_
                  exact ih_25 (v2_25 ||| ((1 : Int32) <<< (v3_25 &&& 31))) (v3_25 + (1 : Int32)) (upd x39 (((1 : Int32) + ((5 : Int32) * v1)) + (4 : Int32)).toNatClampNeg v3_25) hM ls _ _ hP hD hS (lv_sub hl [2, 3, 1, 0] rfl)
              · have hM := ite_f c67 hM
                refine lv_iload hx hb dX4_which_70 (lv_at hl 4 rfl) ?_
                refine lv_if_eq (tgt := 132) hx hb dX4_which_72 (by decide) (fun c72 => ?_) (fun c72 => ?_)
                · have hM := ite_f (b2i_eq0 c72) hM
                  refine lv_iconst (v := (0 : Int32)) hx hb dX4_which_132 (by decide) ?_
                  refine lv_istore (lv' := [(4, .int (0 : Int32)), (0, .ref a_t), (1, .int v1), (2, .int v2_25), (3, .int v3_25), (5, .int v5_61)]) hx hb dX4_which_133 hl (by decide) rfl (fun ls hl => ?_)
                  refine lv_iinc (v := (v5_61 + (1 : Int32))) (lv' := [(5, .int (v5_61 + (1 : Int32))), (4, .int (0 : Int32)), (0, .ref a_t), (1, .int v1), (2, .int v2_25), (3, .int v3_25)]) hx hb dX4_which_135 hl (k := 5) rfl rfl (by decide) rfl (fun ls hl => ?_)
                  refine lv_goto (tgt := 61) hx hb dX4_which_138 (by decide) ?_
                  exact ih_61 false (v5_61 + (1 : Int32)) hM ls _ _ hP hD hS (lv_sub hl [2, 3, 4, 5, 1, 0] rfl)
                · have hM := ite_t (b2i_ne0 c72) hM
                  refine lv_aload_n hx hb dX4_which_75 rfl (lv_at hl 0 rfl) ?_
                  refine lv_aload_n hx hb dX4_which_76 rfl (lv_at hl 0 rfl) ?_
                  refine va_get (D := (dC, dI)) (ci := 4) (v := .ref a_t_trial) (C := RX4) (T := TX4) (N := 21) hx hb hU inlX4 hown hE.1 hP 0 rfl rfl 5 (by decide) (hU _ u_4_16) (fun _ h9 => h9) rfl dX4_which_77 ?_
                  refine lv_aload_n hx hb dX4_which_80 rfl (lv_at hl 0 rfl) ?_
                  refine va_get (D := (dC, dI)) (ci := 4) (v := .ref a_t_seenAt) (C := RX4) (T := TX4) (N := 21) hx hb hU inlX4 hown hE.1 hP 0 rfl rfl 11 (by decide) (hU _ u_4_21) (fun _ h9 => h9) rfl dX4_which_81 ?_
                  refine lv_iconst (v := (4 : Int32)) hx hb dX4_which_84 (by decide) ?_
                  refine lv_iload hx hb dX4_which_85 (lv_at hl 5 rfl) ?_
                  refine lv_imul hx hb dX4_which_87 ?_
                  obtain ⟨g88, hM⟩ := rd_e hM
                  refine va_iald hx hb hE.1 hP 3 0 rfl rfl g88 dX4_which_88 ?_
                  refine lv_aload_n hx hb dX4_which_89 rfl (lv_at hl 0 rfl) ?_
                  refine va_get (D := (dC, dI)) (ci := 4) (v := .ref a_t_seenAt) (C := RX4) (T := TX4) (N := 21) hx hb hU inlX4 hown hE.1 hP 0 rfl rfl 11 (by decide) (hU _ u_4_21) (fun _ h9 => h9) rfl dX4_which_90 ?_
                  refine lv_iconst (v := (4 : Int32)) hx hb dX4_which_93 (by decide) ?_
                  refine lv_iload hx hb dX4_which_94 (lv_at hl 5 rfl) ?_
                  refine lv_imul hx hb dX4_which_96 ?_
                  refine lv_iconst (v := (1 : Int32)) hx hb dX4_which_97 (by decide) ?_
                  refine lv_iadd hx hb dX4_which_98 ?_
                  obtain ⟨g99, hM⟩ := rd_e hM
                  refine va_iald hx hb hE.1 hP 3 0 rfl rfl g99 dX4_which_99 ?_
                  refine lv_aload_n hx hb dX4_which_100 rfl (lv_at hl 0 rfl) ?_
                  refine va_get (D := (dC, dI)) (ci := 4) (v := .ref a_t_seenAt) (C := RX4) (T := TX4) (N := 21) hx hb hU inlX4 hown hE.1 hP 0 rfl rfl 11 (by decide) (hU _ u_4_21) (fun _ h9 => h9) rfl dX4_which_101 ?_
                  refine lv_iconst (v := (4 : Int32)) hx hb dX4_which_104 (by decide) ?_
                  refine lv_iload hx hb dX4_which_105 (lv_at hl 5 rfl) ?_
                  refine lv_imul hx hb dX4_which_107 ?_
                  refine lv_iconst (v := (2 : Int32)) hx hb dX4_which_108 (by decide) ?_
                  refine lv_iadd hx hb dX4_which_109 ?_
                  obtain ⟨g110, hM⟩ := rd_e hM
                  refine va_iald hx hb hE.1 hP 3 0 rfl rfl g110 dX4_which_110 ?_
                  obtain ⟨x111, h111, hM⟩ := bind_e hM
                  refine rdV (As := [.ref a_t_trial, .int (s_t_seenAt ((4 : Int32) * v5_61).toNatClampNeg), .int (s_t_seenAt (((4 : Int32) * v5_61) + (1 : Int32)).toNatClampNeg), .int (s_t_seenAt (((4 : Int32) * v5_61) + (2 : Int32)).toNatClampNeg)]) (rest := []) (st2 := [.int x111]) ⟨hx, hb, hml, hown, hU⟩ hE (okX4_stateOf a_t a_t_text a_t_paper a_t_now a_t_trial a_t_diary a_t_kept a_t_isKept a_t_seenAt a_t_worth a_t_readPaper a_t_read a_t_trial s_t (upd x39 (((1 : Int32) + ((5 : Int32) * v1)) + (4 : Int32)).toNatClampNeg v3_25) s_t_paper (s_t_seenAt ((4 : Int32) * v5_61).toNatClampNeg) (s_t_seenAt (((4 : Int32) * v5_61) + (1 : Int32)).toNatClampNeg) (s_t_seenAt (((4 : Int32) * v5_61) + (2 : Int32)).toNatClampNeg) x111 h111) lk_X4_138 (hP.sub [0, 2, 4] rfl) rfl rfl rfl hl.1 rfl (Nat.le_of_ble_eq_true rfl) ⟨Nat.le_of_ble_eq_true rfl, Nat.le_of_ble_eq_true rfl⟩ dX4_which_111 ⟨Nat.le_refl _, Nat.le_refl _⟩ rfl ?_
                  refine lv_aload_n hx hb dX4_which_114 rfl (lv_at hl 0 rfl) ?_
                  refine va_get (D := (dC, dI)) (ci := 4) (v := .ref a_t_seenAt) (C := RX4) (T := TX4) (N := 21) hx hb hU inlX4 hown hE.1 hP 0 rfl rfl 11 (by decide) (hU _ u_4_21) (fun _ h9 => h9) rfl dX4_which_115 ?_
                  refine lv_iconst (v := (4 : Int32)) hx hb dX4_which_118 (by decide) ?_
                  refine lv_iload hx hb dX4_which_119 (lv_at hl 5 rfl) ?_
                  refine lv_imul hx hb dX4_which_121 ?_
                  refine lv_iconst (v := (3 : Int32)) hx hb dX4_which_122 (by decide) ?_
                  refine lv_iadd hx hb dX4_which_123 ?_
                  obtain ⟨g124, hM⟩ := rd_e hM
                  refine va_iald hx hb hE.1 hP 3 0 rfl rfl g124 dX4_which_124 ?_
                  refine lv_icmp_ne (tgt := 132) hx hb dX4_which_125 (by decide) (fun c125 => ?_) (fun c125 => ?_)
                  · have hM := ite_f c125 hM
                    refine lv_iconst (v := (0 : Int32)) hx hb dX4_which_132 (by decide) ?_
                    refine lv_istore (lv' := [(4, .int (0 : Int32)), (0, .ref a_t), (1, .int v1), (2, .int v2_25), (3, .int v3_25), (5, .int v5_61)]) hx hb dX4_which_133 hl (by decide) rfl (fun ls hl => ?_)
                    refine lv_iinc (v := (v5_61 + (1 : Int32))) (lv' := [(5, .int (v5_61 + (1 : Int32))), (4, .int (0 : Int32)), (0, .ref a_t), (1, .int v1), (2, .int v2_25), (3, .int v3_25)]) hx hb dX4_which_135 hl (k := 5) rfl rfl (by decide) rfl (fun ls hl => ?_)
                    refine lv_goto (tgt := 61) hx hb dX4_which_138 (by decide) ?_
                    exact ih_61 false (v5_61 + (1 : Int32)) hM ls _ _ hP hD hS (lv_sub hl [2, 3, 4, 5, 1, 0] rfl)
                  · have hM := ite_t c125 hM
                    refine lv_iconst (v := (1 : Int32)) hx hb dX4_which_128 (by decide) ?_
                    refine lv_goto (tgt := 133) hx hb dX4_which_129 (by decide) ?_
                    refine lv_istore (lv' := [(4, .int (1 : Int32)), (0, .ref a_t), (1, .int v1), (2, .int v2_25), (3, .int v3_25), (5, .int v5_61)]) hx hb dX4_which_133 hl (by decide) rfl (fun ls hl => ?_)
                    refine lv_iinc (v := (v5_61 + (1 : Int32))) (lv' := [(5, .int (v5_61 + (1 : Int32))), (4, .int (1 : Int32)), (0, .ref a_t), (1, .int v1), (2, .int v2_25), (3, .int v3_25)]) hx hb dX4_which_135 hl (k := 5) rfl rfl (by decide) rfl (fun ls hl => ?_)
                    refine lv_goto (tgt := 61) hx hb dX4_which_138 (by decide) ?_
                    exact ih_61 true (v5_61 + (1 : Int32)) hM ls _ _ hP hD hS (lv_sub hl [2, 3, 4, 5, 1, 0] rfl)
          exact w_61 FU true (0 : Int32) hM ls _ _ hP hD hS (lv_sub hl [2, 3, 4, 5, 1, 0] rfl)
    exact w_25 FU (0 : Int32) (s_t_now (((1 : Int32) + ((5 : Int32) * v1)) + (3 : Int32)).toNatClampNeg) s_t_trial hM ls _ _ hP hD hS (lv_sub hl [2, 3, 1, 0] rfl)
  · have hM := ite_f (b2i_eq0 c5) hM
    refine lv_iconst (v := (-1 : Int32)) hx hb dX4_which_8 (by decide) ?_
    cases hM
    exact rt _ _ _ _ _ hP hS dX4_which_9 rfl
