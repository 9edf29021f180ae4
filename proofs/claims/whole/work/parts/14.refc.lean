noncomputable def mX4_readOnePaper (s_t : Int32 × Int32 × Int32 × Int32 × Int32 × Int32 × Int32 × Int32 × Int32 × Int64) (s_t_text : Nat → Int32) (s_t_readPaper : Nat → Int32) : Option (Bool × (Int32 × Int32 × Int32 × Int32 × Int32 × Int32 × Int32 × Int32 × Int32 × Int64) × (Nat → Int32)) := (mX4_figure s_t s_t_text (0 : Int32) (s_t.2.2.2.2.2.2.1 - (1 : Int32))).bind (fun x8 => (if x8.1 = (-9 : Int32) then some (false, x8.2, s_t_readPaper) else (mX4_readRange x8.2 s_t_text).bind (fun x19 => (if x19.1 = true then (mX4_figure x19.2 s_t_text (0 : Int32) (9 : Int32)).bind (fun x31 => (if x31.1 = (-9 : Int32) then some (false, x31.2, s_t_readPaper) else wr s_t_readPaper 24 ((4 : Int32) * x31.2.2.2.2.2.2.2.1) x8.1 (fun x56 => wr x56 24 (((4 : Int32) * x31.2.2.2.2.2.2.2.1) + (1 : Int32)) x31.2.2.2.2.2.2.2.2.1 (fun x68 => wr x68 24 (((4 : Int32) * x31.2.2.2.2.2.2.2.1) + (2 : Int32)) x31.2.2.2.2.2.2.2.2.2.1 (fun x80 => wr x80 24 (((4 : Int32) * x31.2.2.2.2.2.2.2.1) + (3 : Int32)) x31.1 (fun x89 => some (true, (x31.2.1, x31.2.2.1, x31.2.2.2.1, x31.2.2.2.2.1, x31.2.2.2.2.2.1, x31.2.2.2.2.2.2.1, (x31.2.2.2.2.2.2.2.1 + (1 : Int32)), x31.2.2.2.2.2.2.2.2.1, x31.2.2.2.2.2.2.2.2.2.1, x31.2.2.2.2.2.2.2.2.2.2), x89))))))) else some (false, x19.2, s_t_readPaper)))))
set_option maxHeartbeats 4000000 in
set_option maxRecDepth 100000 in
theorem okX4_readOnePaper {l : Launch} {dC : Nat → ClassId} {dI : Nat → Nat → Nat} {cI cC cZ : ClassId} (a_t a_t_text a_t_paper a_t_now a_t_trial a_t_diary a_t_kept a_t_isKept a_t_seenAt a_t_worth a_t_readPaper a_t_read : Nat) (s_t : Int32 × Int32 × Int32 × Int32 × Int32 × Int32 × Int32 × Int32 × Int32 × Int64) (s_t_text : Nat → Int32) (s_t_readPaper : Nat → Int32) (res : Bool × (Int32 × Int32 × Int32 × Int32 × Int32 × Int32 × Int32 × Int32 × Int32 × Int64) × (Nat → Int32)) (hM : mX4_readOnePaper s_t s_t_text s_t_readPaper = some res) : Mu l yX4_readOnePaper cX4_readOnePaper 4 (some .boolean) 3 71 (dC, dI) cI cC cZ [(a_t, .inr (4, [.ref a_t_text, .int s_t.1, .int s_t.2.1, .ref a_t_paper, .ref a_t_now, .ref a_t_trial, .ref a_t_diary, .int s_t.2.2.1, .int s_t.2.2.2.1, .ref a_t_kept, .ref a_t_isKept, .ref a_t_seenAt, .int s_t.2.2.2.2.1, .long s_t.2.2.2.2.2.2.2.2.2, .ref a_t_worth, .int s_t.2.2.2.2.2.1, .int s_t.2.2.2.2.2.2.1, .ref a_t_readPaper, .ref a_t_read, .int s_t.2.2.2.2.2.2.2.1, .int s_t.2.2.2.2.2.2.2.2.1])), (a_t_text, .inl (cI, 99, .inl s_t_text)), (a_t_readPaper, .inl (cI, 24, .inl s_t_readPaper))] [(a_t, .inr (4, [.ref a_t_text, .int res.2.1.1, .int res.2.1.2.1, .ref a_t_paper, .ref a_t_now, .ref a_t_trial, .ref a_t_diary, .int res.2.1.2.2.1, .int res.2.1.2.2.2.1, .ref a_t_kept, .ref a_t_isKept, .ref a_t_seenAt, .int res.2.1.2.2.2.2.1, .long res.2.1.2.2.2.2.2.2.2.2.2, .ref a_t_worth, .int res.2.1.2.2.2.2.2.1, .int res.2.1.2.2.2.2.2.2.1, .ref a_t_readPaper, .ref a_t_read, .int res.2.1.2.2.2.2.2.2.2.1, .int res.2.1.2.2.2.2.2.2.2.2.1])), (a_t_text, .inl (cI, 99, .inl s_t_text)), (a_t_readPaper, .inl (cI, 24, .inl res.2.2))] [.ref a_t] (some (.int (b2i res.1))) := by
  refine Mu.ofZ (by decide) (Nat.le_of_ble_eq_true rfl) [(0, .ref a_t)] rfl ?_
  intro p e s m args below meth c ls Q A hx hb hml hown hU hE hP hD hS hA rt hl
  have hown : s.vm.findClass RX4 = some m.cls := hown
  unfold mX4_readOnePaper at hM
  refine lv_aload_n hx hb dX4_readOnePaper_0 rfl (lv_at hl 0 rfl) ?_
  refine lv_iconst (v := (0 : Int32)) hx hb dX4_readOnePaper_1 (by decide) ?_
  refine lv_aload_n hx hb dX4_readOnePaper_2 rfl (lv_at hl 0 rfl) ?_
  refine va_get (D := (dC, dI)) (ci := 4) (v := .int s_t.2.2.2.2.2.2.1) (C := RX4) (T := TX4) (N := 21) hx hb hU inlX4 hown hE.1 hP 0 rfl rfl 16 (by decide) (hU _ u_8_15) (fun _ h9 => h9) rfl dX4_readOnePaper_3 ?_
  refine lv_iconst (v := (1 : Int32)) hx hb dX4_readOnePaper_6 (by decide) ?_
  refine lv_isub hx hb dX4_readOnePaper_7 ?_
  obtain ⟨x8, h8, hM⟩ := bind_e hM
  refine muV (As := [.int (0 : Int32), .int (s_t.2.2.2.2.2.2.1 - (1 : Int32))]) (rest := []) (st2 := [.int x8.1]) (nw := [(a_t, .inr (4, [.ref a_t_text, .int x8.2.1, .int x8.2.2.1, .ref a_t_paper, .ref a_t_now, .ref a_t_trial, .ref a_t_diary, .int x8.2.2.2.1, .int x8.2.2.2.2.1, .ref a_t_kept, .ref a_t_isKept, .ref a_t_seenAt, .int x8.2.2.2.2.2.1, .long x8.2.2.2.2.2.2.2.2.2.2, .ref a_t_worth, .int x8.2.2.2.2.2.2.1, .int x8.2.2.2.2.2.2.2.1, .ref a_t_readPaper, .ref a_t_read, .int x8.2.2.2.2.2.2.2.2.1, .int x8.2.2.2.2.2.2.2.2.2.1])), (a_t_text, .inl (cI, 99, .inl s_t_text)), (a_t_readPaper, .inl (cI, 24, .inl s_t_readPaper))]) ⟨hx, hb, hml, hown, hU⟩ hE (okX4_figure a_t a_t_text a_t_paper a_t_now a_t_trial a_t_diary a_t_kept a_t_isKept a_t_seenAt a_t_worth a_t_readPaper a_t_read s_t s_t_text (0 : Int32) (s_t.2.2.2.2.2.2.1 - (1 : Int32)) x8 h8) lk_X4_68 hP hD hS hA [0, 1] rfl rfl rfl rfl rfl rfl hl.1 rfl (Nat.le_of_ble_eq_true rfl) ⟨Nat.le_of_ble_eq_true rfl, Nat.le_of_ble_eq_true rfl⟩ dX4_readOnePaper_8 ⟨Nat.le_refl _, Nat.le_refl _⟩ rfl rfl rfl rfl (fun H locs hP hD hS => ?_)
  refine lv_istore_n (lv' := [(1, .int x8.1), (0, .ref a_t)]) hx hb dX4_readOnePaper_11 rfl hl (by decide) rfl (fun ls hl => ?_)
  refine lv_iload_n hx hb dX4_readOnePaper_12 rfl (lv_at hl 0 rfl) ?_
  refine lv_bipush (v := (-9 : Int32)) hx hb dX4_readOnePaper_13 (by decide) ?_
  refine lv_icmp_eq (tgt := 25) hx hb dX4_readOnePaper_15 (by decide) (fun c15 => ?_) (fun c15 => ?_)
  · have hM := ite_t c15 hM
    refine lv_iconst (v := (0 : Int32)) hx hb dX4_readOnePaper_25 (by decide) ?_
    cases hM
    exact rt false _ _ _ _ hP hS dX4_readOnePaper_26 rfl
  · have hM := ite_f c15 hM
    refine lv_aload_n hx hb dX4_readOnePaper_18 rfl (lv_at hl 1 rfl) ?_
    obtain ⟨x19, h19, hM⟩ := bind_e hM
    refine muV (As := []) (rest := []) (st2 := [.int (b2i x19.1)]) (nw := [(a_t, .inr (4, [.ref a_t_text, .int x19.2.1, .int x19.2.2.1, .ref a_t_paper, .ref a_t_now, .ref a_t_trial, .ref a_t_diary, .int x19.2.2.2.1, .int x19.2.2.2.2.1, .ref a_t_kept, .ref a_t_isKept, .ref a_t_seenAt, .int x19.2.2.2.2.2.1, .long x19.2.2.2.2.2.2.2.2.2.2, .ref a_t_worth, .int x19.2.2.2.2.2.2.1, .int x19.2.2.2.2.2.2.2.1, .ref a_t_readPaper, .ref a_t_read, .int x19.2.2.2.2.2.2.2.2.1, .int x19.2.2.2.2.2.2.2.2.2.1])), (a_t_text, .inl (cI, 99, .inl s_t_text)), (a_t_readPaper, .inl (cI, 24, .inl s_t_readPaper))]) ⟨hx, hb, hml, hown, hU⟩ hE (okX4_readRange a_t a_t_text a_t_paper a_t_now a_t_trial a_t_diary a_t_kept a_t_isKept a_t_seenAt a_t_worth a_t_readPaper a_t_read x8.2 s_t_text x19 h19) lk_X4_85 hP hD hS hA [0, 1] rfl rfl rfl rfl rfl rfl hl.1 rfl (Nat.le_of_ble_eq_true rfl) ⟨Nat.le_of_ble_eq_true rfl, Nat.le_of_ble_eq_true rfl⟩ dX4_readOnePaper_19 ⟨Nat.le_refl _, Nat.le_refl _⟩ rfl rfl rfl rfl (fun H locs hP hD hS => ?_)
    refine lv_if_ne (tgt := 27) hx hb dX4_readOnePaper_22 (by decide) (fun c22 => ?_) (fun c22 => ?_)
    · have hM := ite_t (b2i_ne0 c22) hM
      refine lv_aload_n hx hb dX4_readOnePaper_27 rfl (lv_at hl 1 rfl) ?_
      refine lv_iconst (v := (0 : Int32)) hx hb dX4_readOnePaper_28 (by decide) ?_
      refine lv_bipush (v := (9 : Int32)) hx hb dX4_readOnePaper_29 (by decide) ?_
      obtain ⟨x31, h31, hM⟩ := bind_e hM
      refine muV (As := [.int (0 : Int32), .int (9 : Int32)]) (rest := []) (st2 := [.int x31.1]) (nw := [(a_t, .inr (4, [.ref a_t_text, .int x31.2.1, .int x31.2.2.1, .ref a_t_paper, .ref a_t_now, .ref a_t_trial, .ref a_t_diary, .int x31.2.2.2.1, .int x31.2.2.2.2.1, .ref a_t_kept, .ref a_t_isKept, .ref a_t_seenAt, .int x31.2.2.2.2.2.1, .long x31.2.2.2.2.2.2.2.2.2.2, .ref a_t_worth, .int x31.2.2.2.2.2.2.1, .int x31.2.2.2.2.2.2.2.1, .ref a_t_readPaper, .ref a_t_read, .int x31.2.2.2.2.2.2.2.2.1, .int x31.2.2.2.2.2.2.2.2.2.1])), (a_t_text, .inl (cI, 99, .inl s_t_text)), (a_t_readPaper, .inl (cI, 24, .inl s_t_readPaper))]) ⟨hx, hb, hml, hown, hU⟩ hE (okX4_figure a_t a_t_text a_t_paper a_t_now a_t_trial a_t_diary a_t_kept a_t_isKept a_t_seenAt a_t_worth a_t_readPaper a_t_read x19.2 s_t_text (0 : Int32) (9 : Int32) x31 h31) lk_X4_68 hP hD hS hA [0, 1] rfl rfl rfl rfl rfl rfl hl.1 rfl (Nat.le_of_ble_eq_true rfl) ⟨Nat.le_of_ble_eq_true rfl, Nat.le_of_ble_eq_true rfl⟩ dX4_readOnePaper_31 ⟨Nat.le_refl _, Nat.le_refl _⟩ rfl rfl rfl rfl (fun H locs hP hD hS => ?_)
      refine lv_istore_n (lv' := [(2, .int x31.1), (1, .int x8.1), (0, .ref a_t)]) hx hb dX4_readOnePaper_34 rfl hl (by decide) rfl (fun ls hl => ?_)
      refine lv_iload_n hx hb dX4_readOnePaper_35 rfl (lv_at hl 0 rfl) ?_
      refine lv_bipush (v := (-9 : Int32)) hx hb dX4_readOnePaper_36 (by decide) ?_
      refine lv_icmp_ne (tgt := 43) hx hb dX4_readOnePaper_38 (by decide) (fun c38 => ?_) (fun c38 => ?_)
      · have hM := ite_f c38 hM
        refine lv_iconst (v := (4 : Int32)) hx hb dX4_readOnePaper_43 (by decide) ?_
        refine lv_aload_n hx hb dX4_readOnePaper_44 rfl (lv_at hl 2 rfl) ?_
        refine va_get (D := (dC, dI)) (ci := 4) (v := .int x31.2.2.2.2.2.2.2.1) (C := RX4) (T := TX4) (N := 21) hx hb hU inlX4 hown hE.1 hP 0 rfl rfl 16 (by decide) (hU _ u_8_15) (fun _ h9 => h9) rfl dX4_readOnePaper_45 ?_
        refine lv_imul hx hb dX4_readOnePaper_48 ?_
        refine lv_istore_n (lv' := [(3, .int ((4 : Int32) * x31.2.2.2.2.2.2.2.1)), (2, .int x31.1), (1, .int x8.1), (0, .ref a_t)]) hx hb dX4_readOnePaper_49 rfl hl (by decide) rfl (fun ls hl => ?_)
        refine lv_aload_n hx hb dX4_readOnePaper_50 rfl (lv_at hl 3 rfl) ?_
        refine va_get (D := (dC, dI)) (ci := 4) (v := .ref a_t_readPaper) (C := RX4) (T := TX4) (N := 21) hx hb hU inlX4 hown hE.1 hP 0 rfl rfl 17 (by decide) (hU _ u_4_23) (fun _ h9 => h9) rfl dX4_readOnePaper_51 ?_
        refine lv_iload_n hx hb dX4_readOnePaper_54 rfl (lv_at hl 0 rfl) ?_
        refine lv_iload_n hx hb dX4_readOnePaper_55 rfl (lv_at hl 2 rfl) ?_
        obtain ⟨g56, hM⟩ := wr_e hM
        refine va_iast hx hb hE.1 hP hD hS 2 0 rfl rfl g56 dX4_readOnePaper_56 (fun H locs hP hD hS => ?_)
        have hP : va_P (dC, dI) vwCl [(a_t, .inr (4, [.ref a_t_text, .int x31.2.1, .int x31.2.2.1, .ref a_t_paper, .ref a_t_now, .ref a_t_trial, .ref a_t_diary, .int x31.2.2.2.1, .int x31.2.2.2.2.1, .ref a_t_kept, .ref a_t_isKept, .ref a_t_seenAt, .int x31.2.2.2.2.2.1, .long x31.2.2.2.2.2.2.2.2.2.2, .ref a_t_worth, .int x31.2.2.2.2.2.2.1, .int x31.2.2.2.2.2.2.2.1, .ref a_t_readPaper, .ref a_t_read, .int x31.2.2.2.2.2.2.2.2.1, .int x31.2.2.2.2.2.2.2.2.2.1])), (a_t_text, .inl (cI, 99, .inl s_t_text)), (a_t_readPaper, .inl (cI, 24, .inl (upd s_t_readPaper ((4 : Int32) * x31.2.2.2.2.2.2.2.1).toNatClampNeg x8.1)))] H := hP
        have hD : va_D A [(a_t, .inr (4, [.ref a_t_text, .int x31.2.1, .int x31.2.2.1, .ref a_t_paper, .ref a_t_now, .ref a_t_trial, .ref a_t_diary, .int x31.2.2.2.1, .int x31.2.2.2.2.1, .ref a_t_kept, .ref a_t_isKept, .ref a_t_seenAt, .int x31.2.2.2.2.2.1, .long x31.2.2.2.2.2.2.2.2.2.2, .ref a_t_worth, .int x31.2.2.2.2.2.2.1, .int x31.2.2.2.2.2.2.2.1, .ref a_t_readPaper, .ref a_t_read, .int x31.2.2.2.2.2.2.2.2.1, .int x31.2.2.2.2.2.2.2.2.2.1])), (a_t_text, .inl (cI, 99, .inl s_t_text)), (a_t_readPaper, .inl (cI, 24, .inl (upd s_t_readPaper ((4 : Int32) * x31.2.2.2.2.2.2.2.1).toNatClampNeg x8.1)))] := hD
        refine lv_aload_n hx hb dX4_readOnePaper_57 rfl (lv_at hl 3 rfl) ?_
        refine va_get (D := (dC, dI)) (ci := 4) (v := .ref a_t_readPaper) (C := RX4) (T := TX4) (N := 21) hx hb hU inlX4 hown hE.1 hP 0 rfl rfl 17 (by decide) (hU _ u_4_23) (fun _ h9 => h9) rfl dX4_readOnePaper_58 ?_
        refine lv_iload_n hx hb dX4_readOnePaper_61 rfl (lv_at hl 0 rfl) ?_
        refine lv_iconst (v := (1 : Int32)) hx hb dX4_readOnePaper_62 (by decide) ?_
        refine lv_iadd hx hb dX4_readOnePaper_63 ?_
        refine lv_aload_n hx hb dX4_readOnePaper_64 rfl (lv_at hl 3 rfl) ?_
        refine va_get (D := (dC, dI)) (ci := 4) (v := .int x31.2.2.2.2.2.2.2.2.1) (C := RX4) (T := TX4) (N := 21) hx hb hU inlX4 hown hE.1 hP 0 rfl rfl 19 (by decide) (hU _ u_9_1) (fun _ h9 => h9) rfl dX4_readOnePaper_65 ?_
        obtain ⟨g68, hM⟩ := wr_e hM
        refine va_iast hx hb hE.1 hP hD hS 2 0 rfl rfl g68 dX4_readOnePaper_68 (fun H locs hP hD hS => ?_)
        have hP : va_P (dC, dI) vwCl [(a_t, .inr (4, [.ref a_t_text, .int x31.2.1, .int x31.2.2.1, .ref a_t_paper, .ref a_t_now, .ref a_t_trial, .ref a_t_diary, .int x31.2.2.2.1, .int x31.2.2.2.2.1, .ref a_t_kept, .ref a_t_isKept, .ref a_t_seenAt, .int x31.2.2.2.2.2.1, .long x31.2.2.2.2.2.2.2.2.2.2, .ref a_t_worth, .int x31.2.2.2.2.2.2.1, .int x31.2.2.2.2.2.2.2.1, .ref a_t_readPaper, .ref a_t_read, .int x31.2.2.2.2.2.2.2.2.1, .int x31.2.2.2.2.2.2.2.2.2.1])), (a_t_text, .inl (cI, 99, .inl s_t_text)), (a_t_readPaper, .inl (cI, 24, .inl (upd (upd s_t_readPaper ((4 : Int32) * x31.2.2.2.2.2.2.2.1).toNatClampNeg x8.1) (((4 : Int32) * x31.2.2.2.2.2.2.2.1) + (1 : Int32)).toNatClampNeg x31.2.2.2.2.2.2.2.2.1)))] H := hP
        have hD : va_D A [(a_t, .inr (4, [.ref a_t_text, .int x31.2.1, .int x31.2.2.1, .ref a_t_paper, .ref a_t_now, .ref a_t_trial, .ref a_t_diary, .int x31.2.2.2.1, .int x31.2.2.2.2.1, .ref a_t_kept, .ref a_t_isKept, .ref a_t_seenAt, .int x31.2.2.2.2.2.1, .long x31.2.2.2.2.2.2.2.2.2.2, .ref a_t_worth, .int x31.2.2.2.2.2.2.1, .int x31.2.2.2.2.2.2.2.1, .ref a_t_readPaper, .ref a_t_read, .int x31.2.2.2.2.2.2.2.2.1, .int x31.2.2.2.2.2.2.2.2.2.1])), (a_t_text, .inl (cI, 99, .inl s_t_text)), (a_t_readPaper, .inl (cI, 24, .inl (upd (upd s_t_readPaper ((4 : Int32) * x31.2.2.2.2.2.2.2.1).toNatClampNeg x8.1) (((4 : Int32) * x31.2.2.2.2.2.2.2.1) + (1 : Int32)).toNatClampNeg x31.2.2.2.2.2.2.2.2.1)))] := hD
        refine lv_aload_n hx hb dX4_readOnePaper_69 rfl (lv_at hl 3 rfl) ?_
        refine va_get (D := (dC, dI)) (ci := 4) (v := .ref a_t_readPaper) (C := RX4) (T := TX4) (N := 21) hx hb hU inlX4 hown hE.1 hP 0 rfl rfl 17 (by decide) (hU _ u_4_23) (fun _ h9 => h9) rfl dX4_readOnePaper_70 ?_
        refine lv_iload_n hx hb dX4_readOnePaper_73 rfl (lv_at hl 0 rfl) ?_
        refine lv_iconst (v := (2 : Int32)) hx hb dX4_readOnePaper_74 (by decide) ?_
        refine lv_iadd hx hb dX4_readOnePaper_75 ?_
        refine lv_aload_n hx hb dX4_readOnePaper_76 rfl (lv_at hl 3 rfl) ?_
        refine va_get (D := (dC, dI)) (ci := 4) (v := .int x31.2.2.2.2.2.2.2.2.2.1) (C := RX4) (T := TX4) (N := 21) hx hb hU inlX4 hown hE.1 hP 0 rfl rfl 20 (by decide) (hU _ u_9_2) (fun _ h9 => h9) rfl dX4_readOnePaper_77 ?_
        obtain ⟨g80, hM⟩ := wr_e hM
        refine va_iast hx hb hE.1 hP hD hS 2 0 rfl rfl g80 dX4_readOnePaper_80 (fun H locs hP hD hS => ?_)
        have hP : va_P (dC, dI) vwCl [(a_t, .inr (4, [.ref a_t_text, .int x31.2.1, .int x31.2.2.1, .ref a_t_paper, .ref a_t_now, .ref a_t_trial, .ref a_t_diary, .int x31.2.2.2.1, .int x31.2.2.2.2.1, .ref a_t_kept, .ref a_t_isKept, .ref a_t_seenAt, .int x31.2.2.2.2.2.1, .long x31.2.2.2.2.2.2.2.2.2.2, .ref a_t_worth, .int x31.2.2.2.2.2.2.1, .int x31.2.2.2.2.2.2.2.1, .ref a_t_readPaper, .ref a_t_read, .int x31.2.2.2.2.2.2.2.2.1, .int x31.2.2.2.2.2.2.2.2.2.1])), (a_t_text, .inl (cI, 99, .inl s_t_text)), (a_t_readPaper, .inl (cI, 24, .inl (upd (upd (upd s_t_readPaper ((4 : Int32) * x31.2.2.2.2.2.2.2.1).toNatClampNeg x8.1) (((4 : Int32) * x31.2.2.2.2.2.2.2.1) + (1 : Int32)).toNatClampNeg x31.2.2.2.2.2.2.2.2.1) (((4 : Int32) * x31.2.2.2.2.2.2.2.1) + (2 : Int32)).toNatClampNeg x31.2.2.2.2.2.2.2.2.2.1)))] H := hP
        have hD : va_D A [(a_t, .inr (4, [.ref a_t_text, .int x31.2.1, .int x31.2.2.1, .ref a_t_paper, .ref a_t_now, .ref a_t_trial, .ref a_t_diary, .int x31.2.2.2.1, .int x31.2.2.2.2.1, .ref a_t_kept, .ref a_t_isKept, .ref a_t_seenAt, .int x31.2.2.2.2.2.1, .long x31.2.2.2.2.2.2.2.2.2.2, .ref a_t_worth, .int x31.2.2.2.2.2.2.1, .int x31.2.2.2.2.2.2.2.1, .ref a_t_readPaper, .ref a_t_read, .int x31.2.2.2.2.2.2.2.2.1, .int x31.2.2.2.2.2.2.2.2.2.1])), (a_t_text, .inl (cI, 99, .inl s_t_text)), (a_t_readPaper, .inl (cI, 24, .inl (upd (upd (upd s_t_readPaper ((4 : Int32) * x31.2.2.2.2.2.2.2.1).toNatClampNeg x8.1) (((4 : Int32) * x31.2.2.2.2.2.2.2.1) + (1 : Int32)).toNatClampNeg x31.2.2.2.2.2.2.2.2.1) (((4 : Int32) * x31.2.2.2.2.2.2.2.1) + (2 : Int32)).toNatClampNeg x31.2.2.2.2.2.2.2.2.2.1)))] := hD
        refine lv_aload_n hx hb dX4_readOnePaper_81 rfl (lv_at hl 3 rfl) ?_
        refine va_get (D := (dC, dI)) (ci := 4) (v := .ref a_t_readPaper) (C := RX4) (T := TX4) (N := 21) hx hb hU inlX4 hown hE.1 hP 0 rfl rfl 17 (by decide) (hU _ u_4_23) (fun _ h9 => h9) rfl dX4_readOnePaper_82 ?_
        refine lv_iload_n hx hb dX4_readOnePaper_85 rfl (lv_at hl 0 rfl) ?_
        refine lv_iconst (v := (3 : Int32)) hx hb dX4_readOnePaper_86 (by decide) ?_
        refine lv_iadd hx hb dX4_readOnePaper_87 ?_
        refine lv_iload_n hx hb dX4_readOnePaper_88 rfl (lv_at hl 1 rfl) ?_
        obtain ⟨g89, hM⟩ := wr_e hM
        refine va_iast hx hb hE.1 hP hD hS 2 0 rfl rfl g89 dX4_readOnePaper_89 (fun H locs hP hD hS => ?_)
        have hP : va_P (dC, dI) vwCl [(a_t, .inr (4, [.ref a_t_text, .int x31.2.1, .int x31.2.2.1, .ref a_t_paper, .ref a_t_now, .ref a_t_trial, .ref a_t_diary, .int x31.2.2.2.1, .int x31.2.2.2.2.1, .ref a_t_kept, .ref a_t_isKept, .ref a_t_seenAt, .int x31.2.2.2.2.2.1, .long x31.2.2.2.2.2.2.2.2.2.2, .ref a_t_worth, .int x31.2.2.2.2.2.2.1, .int x31.2.2.2.2.2.2.2.1, .ref a_t_readPaper, .ref a_t_read, .int x31.2.2.2.2.2.2.2.2.1, .int x31.2.2.2.2.2.2.2.2.2.1])), (a_t_text, .inl (cI, 99, .inl s_t_text)), (a_t_readPaper, .inl (cI, 24, .inl (upd (upd (upd (upd s_t_readPaper ((4 : Int32) * x31.2.2.2.2.2.2.2.1).toNatClampNeg x8.1) (((4 : Int32) * x31.2.2.2.2.2.2.2.1) + (1 : Int32)).toNatClampNeg x31.2.2.2.2.2.2.2.2.1) (((4 : Int32) * x31.2.2.2.2.2.2.2.1) + (2 : Int32)).toNatClampNeg x31.2.2.2.2.2.2.2.2.2.1) (((4 : Int32) * x31.2.2.2.2.2.2.2.1) + (3 : Int32)).toNatClampNeg x31.1)))] H := hP
        have hD : va_D A [(a_t, .inr (4, [.ref a_t_text, .int x31.2.1, .int x31.2.2.1, .ref a_t_paper, .ref a_t_now, .ref a_t_trial, .ref a_t_diary, .int x31.2.2.2.1, .int x31.2.2.2.2.1, .ref a_t_kept, .ref a_t_isKept, .ref a_t_seenAt, .int x31.2.2.2.2.2.1, .long x31.2.2.2.2.2.2.2.2.2.2, .ref a_t_worth, .int x31.2.2.2.2.2.2.1, .int x31.2.2.2.2.2.2.2.1, .ref a_t_readPaper, .ref a_t_read, .int x31.2.2.2.2.2.2.2.2.1, .int x31.2.2.2.2.2.2.2.2.2.1])), (a_t_text, .inl (cI, 99, .inl s_t_text)), (a_t_readPaper, .inl (cI, 24, .inl (upd (upd (upd (upd s_t_readPaper ((4 : Int32) * x31.2.2.2.2.2.2.2.1).toNatClampNeg x8.1) (((4 : Int32) * x31.2.2.2.2.2.2.2.1) + (1 : Int32)).toNatClampNeg x31.2.2.2.2.2.2.2.2.1) (((4 : Int32) * x31.2.2.2.2.2.2.2.1) + (2 : Int32)).toNatClampNeg x31.2.2.2.2.2.2.2.2.2.1) (((4 : Int32) * x31.2.2.2.2.2.2.2.1) + (3 : Int32)).toNatClampNeg x31.1)))] := hD
        refine lv_aload_n hx hb dX4_readOnePaper_90 rfl (lv_at hl 3 rfl) ?_
        refine lv_dup hx hb dX4_readOnePaper_91 rfl ?_
        refine va_get (D := (dC, dI)) (ci := 4) (v := .int x31.2.2.2.2.2.2.2.1) (C := RX4) (T := TX4) (N := 21) hx hb hU inlX4 hown hE.1 hP 0 rfl rfl 16 (by decide) (hU _ u_8_15) (fun _ h9 => h9) rfl dX4_readOnePaper_92 ?_
        refine lv_iconst (v := (1 : Int32)) hx hb dX4_readOnePaper_95 (by decide) ?_
        refine lv_iadd hx hb dX4_readOnePaper_96 ?_
        refine va_put (D := (dC, dI)) (ci := 4) (v := .int (x31.2.2.2.2.2.2.2.1 + (1 : Int32))) (ty := .int) (C := RX4) (T := TX4) (N := 21) hx hb hU inlX4 tyX4 tyX4_ok nmX4 hown hE.1 hP hD hS 0 rfl rfl 16 (by decide) (hU _ u_8_15) (fun _ h9 => h9) rfl (tyX4_ok 16 (by decide)) rfl rfl (Nat.le_of_ble_eq_true rfl) dX4_readOnePaper_97 (fun H locs hP hD hS => ?_)
        have hP : va_P (dC, dI) vwCl [(a_t, .inr (4, [.ref a_t_text, .int x31.2.1, .int x31.2.2.1, .ref a_t_paper, .ref a_t_now, .ref a_t_trial, .ref a_t_diary, .int x31.2.2.2.1, .int x31.2.2.2.2.1, .ref a_t_kept, .ref a_t_isKept, .ref a_t_seenAt, .int x31.2.2.2.2.2.1, .long x31.2.2.2.2.2.2.2.2.2.2, .ref a_t_worth, .int x31.2.2.2.2.2.2.1, .int (x31.2.2.2.2.2.2.2.1 + (1 : Int32)), .ref a_t_readPaper, .ref a_t_read, .int x31.2.2.2.2.2.2.2.2.1, .int x31.2.2.2.2.2.2.2.2.2.1])), (a_t_text, .inl (cI, 99, .inl s_t_text)), (a_t_readPaper, .inl (cI, 24, .inl (upd (upd (upd (upd s_t_readPaper ((4 : Int32) * x31.2.2.2.2.2.2.2.1).toNatClampNeg x8.1) (((4 : Int32) * x31.2.2.2.2.2.2.2.1) + (1 : Int32)).toNatClampNeg x31.2.2.2.2.2.2.2.2.1) (((4 : Int32) * x31.2.2.2.2.2.2.2.1) + (2 : Int32)).toNatClampNeg x31.2.2.2.2.2.2.2.2.2.1) (((4 : Int32) * x31.2.2.2.2.2.2.2.1) + (3 : Int32)).toNatClampNeg x31.1)))] H := hP
        have hD : va_D A [(a_t, .inr (4, [.ref a_t_text, .int x31.2.1, .int x31.2.2.1, .ref a_t_paper, .ref a_t_now, .ref a_t_trial, .ref a_t_diary, .int x31.2.2.2.1, .int x31.2.2.2.2.1, .ref a_t_kept, .ref a_t_isKept, .ref a_t_seenAt, .int x31.2.2.2.2.2.1, .long x31.2.2.2.2.2.2.2.2.2.2, .ref a_t_worth, .int x31.2.2.2.2.2.2.1, .int (x31.2.2.2.2.2.2.2.1 + (1 : Int32)), .ref a_t_readPaper, .ref a_t_read, .int x31.2.2.2.2.2.2.2.2.1, .int x31.2.2.2.2.2.2.2.2.2.1])), (a_t_text, .inl (cI, 99, .inl s_t_text)), (a_t_readPaper, .inl (cI, 24, .inl (upd (upd (upd (upd s_t_readPaper ((4 : Int32) * x31.2.2.2.2.2.2.2.1).toNatClampNeg x8.1) (((4 : Int32) * x31.2.2.2.2.2.2.2.1) + (1 : Int32)).toNatClampNeg x31.2.2.2.2.2.2.2.2.1) (((4 : Int32) * x31.2.2.2.2.2.2.2.1) + (2 : Int32)).toNatClampNeg x31.2.2.2.2.2.2.2.2.2.1) (((4 : Int32) * x31.2.2.2.2.2.2.2.1) + (3 : Int32)).toNatClampNeg x31.1)))] := hD
        refine lv_iconst (v := (1 : Int32)) hx hb dX4_readOnePaper_100 (by decide) ?_
        cases hM
        exact rt true _ _ _ _ hP hS dX4_readOnePaper_101 rfl
      · have hM := ite_t c38 hM
        refine lv_iconst (v := (0 : Int32)) hx hb dX4_readOnePaper_41 (by decide) ?_
        cases hM
        exact rt false _ _ _ _ hP hS dX4_readOnePaper_42 rfl
    · have hM := ite_f (b2i_eq0 c22) hM
      refine lv_iconst (v := (0 : Int32)) hx hb dX4_readOnePaper_25 (by decide) ?_
      cases hM
      exact rt false _ _ _ _ hP hS dX4_readOnePaper_26 rfl
noncomputable def mX4_readOneRoute (s_t : Int32 × Int32 × Int32 × Int32 × Int32 × Int32 × Int32 × Int32 × Int32 × Int64) (s_t_text : Nat → Int32) (s_t_read : Nat → Int32) : Option (Bool × (Int32 × Int32 × Int32 × Int32 × Int32 × Int32 × Int32 × Int32 × Int32 × Int64) × (Nat → Int32)) := (mX4_readRange s_t s_t_text).bind (fun x1 => (if x1.1 = true then (mX4_figure x1.2 s_t_text (0 : Int32) (5 : Int32)).bind (fun x12 => (if x12.1 = (-9 : Int32) then some (false, x12.2, s_t_read) else (mX4_addRoute s_t_read x12.2.2.2.2.2.2.2.2.1 x12.2.2.2.2.2.2.2.2.2.1 x12.1).bind (fun x37 => some (true, x12.2, x37)))) else some (false, x1.2, s_t_read)))
set_option maxHeartbeats 4000000 in
set_option maxRecDepth 100000 in
theorem okX4_readOneRoute {l : Launch} {dC : Nat → ClassId} {dI : Nat → Nat → Nat} {cI cC cZ : ClassId} (a_t a_t_text a_t_paper a_t_now a_t_trial a_t_diary a_t_kept a_t_isKept a_t_seenAt a_t_worth a_t_readPaper a_t_read : Nat) (s_t : Int32 × Int32 × Int32 × Int32 × Int32 × Int32 × Int32 × Int32 × Int32 × Int64) (s_t_text : Nat → Int32) (s_t_read : Nat → Int32) (res : Bool × (Int32 × Int32 × Int32 × Int32 × Int32 × Int32 × Int32 × Int32 × Int32 × Int64) × (Nat → Int32)) (hM : mX4_readOneRoute s_t s_t_text s_t_read = some res) : Mu l yX4_readOneRoute cX4_readOneRoute 2 (some .boolean) 3 71 (dC, dI) cI cC cZ [(a_t, .inr (4, [.ref a_t_text, .int s_t.1, .int s_t.2.1, .ref a_t_paper, .ref a_t_now, .ref a_t_trial, .ref a_t_diary, .int s_t.2.2.1, .int s_t.2.2.2.1, .ref a_t_kept, .ref a_t_isKept, .ref a_t_seenAt, .int s_t.2.2.2.2.1, .long s_t.2.2.2.2.2.2.2.2.2, .ref a_t_worth, .int s_t.2.2.2.2.2.1, .int s_t.2.2.2.2.2.2.1, .ref a_t_readPaper, .ref a_t_read, .int s_t.2.2.2.2.2.2.2.1, .int s_t.2.2.2.2.2.2.2.2.1])), (a_t_text, .inl (cI, 99, .inl s_t_text)), (a_t_read, .inl (cI, 66, .inl s_t_read))] [(a_t, .inr (4, [.ref a_t_text, .int res.2.1.1, .int res.2.1.2.1, .ref a_t_paper, .ref a_t_now, .ref a_t_trial, .ref a_t_diary, .int res.2.1.2.2.1, .int res.2.1.2.2.2.1, .ref a_t_kept, .ref a_t_isKept, .ref a_t_seenAt, .int res.2.1.2.2.2.2.1, .long res.2.1.2.2.2.2.2.2.2.2.2, .ref a_t_worth, .int res.2.1.2.2.2.2.2.1, .int res.2.1.2.2.2.2.2.2.1, .ref a_t_readPaper, .ref a_t_read, .int res.2.1.2.2.2.2.2.2.2.1, .int res.2.1.2.2.2.2.2.2.2.2.1])), (a_t_text, .inl (cI, 99, .inl s_t_text)), (a_t_read, .inl (cI, 66, .inl res.2.2))] [.ref a_t] (some (.int (b2i res.1))) := by
  refine Mu.ofZ (by decide) (Nat.le_of_ble_eq_true rfl) [(0, .ref a_t)] rfl ?_
  intro p e s m args below meth c ls Q A hx hb hml hown hU hE hP hD hS hA rt hl
  have hown : s.vm.findClass RX4 = some m.cls := hown
  unfold mX4_readOneRoute at hM
  refine lv_aload_n hx hb dX4_readOneRoute_0 rfl (lv_at hl 0 rfl) ?_
  obtain ⟨x1, h1, hM⟩ := bind_e hM
  refine muV (As := []) (rest := []) (st2 := [.int (b2i x1.1)]) (nw := [(a_t, .inr (4, [.ref a_t_text, .int x1.2.1, .int x1.2.2.1, .ref a_t_paper, .ref a_t_now, .ref a_t_trial, .ref a_t_diary, .int x1.2.2.2.1, .int x1.2.2.2.2.1, .ref a_t_kept, .ref a_t_isKept, .ref a_t_seenAt, .int x1.2.2.2.2.2.1, .long x1.2.2.2.2.2.2.2.2.2.2, .ref a_t_worth, .int x1.2.2.2.2.2.2.1, .int x1.2.2.2.2.2.2.2.1, .ref a_t_readPaper, .ref a_t_read, .int x1.2.2.2.2.2.2.2.2.1, .int x1.2.2.2.2.2.2.2.2.2.1])), (a_t_text, .inl (cI, 99, .inl s_t_text)), (a_t_read, .inl (cI, 66, .inl s_t_read))]) ⟨hx, hb, hml, hown, hU⟩ hE (okX4_readRange a_t a_t_text a_t_paper a_t_now a_t_trial a_t_diary a_t_kept a_t_isKept a_t_seenAt a_t_worth a_t_readPaper a_t_read s_t s_t_text x1 h1) lk_X4_85 hP hD hS hA [0, 1] rfl rfl rfl rfl rfl rfl hl.1 rfl (Nat.le_of_ble_eq_true rfl) ⟨Nat.le_of_ble_eq_true rfl, Nat.le_of_ble_eq_true rfl⟩ dX4_readOneRoute_1 ⟨Nat.le_refl _, Nat.le_refl _⟩ rfl rfl rfl rfl (fun H locs hP hD hS => ?_)
  refine lv_if_ne (tgt := 9) hx hb dX4_readOneRoute_4 (by decide) (fun c4 => ?_) (fun c4 => ?_)
  · have hM := ite_t (b2i_ne0 c4) hM
    refine lv_aload_n hx hb dX4_readOneRoute_9 rfl (lv_at hl 0 rfl) ?_
    refine lv_iconst (v := (0 : Int32)) hx hb dX4_readOneRoute_10 (by decide) ?_
    refine lv_iconst (v := (5 : Int32)) hx hb dX4_readOneRoute_11 (by decide) ?_
    obtain ⟨x12, h12, hM⟩ := bind_e hM
    refine muV (As := [.int (0 : Int32), .int (5 : Int32)]) (rest := []) (st2 := [.int x12.1]) (nw := [(a_t, .inr (4, [.ref a_t_text, .int x12.2.1, .int x12.2.2.1, .ref a_t_paper, .ref a_t_now, .ref a_t_trial, .ref a_t_diary, .int x12.2.2.2.1, .int x12.2.2.2.2.1, .ref a_t_kept, .ref a_t_isKept, .ref a_t_seenAt, .int x12.2.2.2.2.2.1, .long x12.2.2.2.2.2.2.2.2.2.2, .ref a_t_worth, .int x12.2.2.2.2.2.2.1, .int x12.2.2.2.2.2.2.2.1, .ref a_t_readPaper, .ref a_t_read, .int x12.2.2.2.2.2.2.2.2.1, .int x12.2.2.2.2.2.2.2.2.2.1])), (a_t_text, .inl (cI, 99, .inl s_t_text)), (a_t_read, .inl (cI, 66, .inl s_t_read))]) ⟨hx, hb, hml, hown, hU⟩ hE (okX4_figure a_t a_t_text a_t_paper a_t_now a_t_trial a_t_diary a_t_kept a_t_isKept a_t_seenAt a_t_worth a_t_readPaper a_t_read x1.2 s_t_text (0 : Int32) (5 : Int32) x12 h12) lk_X4_68 hP hD hS hA [0, 1] rfl rfl rfl rfl rfl rfl hl.1 rfl (Nat.le_of_ble_eq_true rfl) ⟨Nat.le_of_ble_eq_true rfl, Nat.le_of_ble_eq_true rfl⟩ dX4_readOneRoute_12 ⟨Nat.le_refl _, Nat.le_refl _⟩ rfl rfl rfl rfl (fun H locs hP hD hS => ?_)
    refine lv_istore_n (lv' := [(1, .int x12.1), (0, .ref a_t)]) hx hb dX4_readOneRoute_15 rfl hl (by decide) rfl (fun ls hl => ?_)
    refine lv_iload_n hx hb dX4_readOneRoute_16 rfl (lv_at hl 0 rfl) ?_
    refine lv_bipush (v := (-9 : Int32)) hx hb dX4_readOneRoute_17 (by decide) ?_
    refine lv_icmp_ne (tgt := 24) hx hb dX4_readOneRoute_19 (by decide) (fun c19 => ?_) (fun c19 => ?_)
    · have hM := ite_f c19 hM
      refine lv_aload_n hx hb dX4_readOneRoute_24 rfl (lv_at hl 1 rfl) ?_
      refine va_get (D := (dC, dI)) (ci := 4) (v := .ref a_t_read) (C := RX4) (T := TX4) (N := 21) hx hb hU inlX4 hown hE.1 hP 0 rfl rfl 18 (by decide) (hU _ u_5_0) (fun _ h9 => h9) rfl dX4_readOneRoute_25 ?_
      refine lv_aload_n hx hb dX4_readOneRoute_28 rfl (lv_at hl 1 rfl) ?_
      refine va_get (D := (dC, dI)) (ci := 4) (v := .int x12.2.2.2.2.2.2.2.2.1) (C := RX4) (T := TX4) (N := 21) hx hb hU inlX4 hown hE.1 hP 0 rfl rfl 19 (by decide) (hU _ u_9_1) (fun _ h9 => h9) rfl dX4_readOneRoute_29 ?_
      refine lv_aload_n hx hb dX4_readOneRoute_32 rfl (lv_at hl 1 rfl) ?_
      refine va_get (D := (dC, dI)) (ci := 4) (v := .int x12.2.2.2.2.2.2.2.2.2.1) (C := RX4) (T := TX4) (N := 21) hx hb hU inlX4 hown hE.1 hP 0 rfl rfl 20 (by decide) (hU _ u_9_2) (fun _ h9 => h9) rfl dX4_readOneRoute_33 ?_
      refine lv_iload_n hx hb dX4_readOneRoute_36 rfl (lv_at hl 0 rfl) ?_
      obtain ⟨x37, h37, hM⟩ := bind_e hM
      refine muS (As := [.ref a_t_read, .int x12.2.2.2.2.2.2.2.2.1, .int x12.2.2.2.2.2.2.2.2.2.1, .int x12.1]) (rest := []) (st2 := []) (nw := [(a_t, .inr (4, [.ref a_t_text, .int x12.2.1, .int x12.2.2.1, .ref a_t_paper, .ref a_t_now, .ref a_t_trial, .ref a_t_diary, .int x12.2.2.2.1, .int x12.2.2.2.2.1, .ref a_t_kept, .ref a_t_isKept, .ref a_t_seenAt, .int x12.2.2.2.2.2.1, .long x12.2.2.2.2.2.2.2.2.2.2, .ref a_t_worth, .int x12.2.2.2.2.2.2.1, .int x12.2.2.2.2.2.2.2.1, .ref a_t_readPaper, .ref a_t_read, .int x12.2.2.2.2.2.2.2.2.1, .int x12.2.2.2.2.2.2.2.2.2.1])), (a_t_text, .inl (cI, 99, .inl s_t_text)), (a_t_read, .inl (cI, 66, .inl x37))]) ⟨hx, hb, hml, hown, hU⟩ hE (okX4_addRoute a_t_read s_t_read x12.2.2.2.2.2.2.2.2.1 x12.2.2.2.2.2.2.2.2.2.1 x12.1 x37 h37) lk_X4_93 hP hD hS hA [2] rfl rfl rfl rfl hl.1 rfl (Nat.le_of_ble_eq_true rfl) ⟨Nat.le_of_ble_eq_true rfl, Nat.le_of_ble_eq_true rfl⟩ dX4_readOneRoute_37 ⟨Nat.le_refl _, Nat.le_refl _⟩ rfl rfl rfl rfl (fun H locs hP hD hS => ?_)
      refine lv_iconst (v := (1 : Int32)) hx hb dX4_readOneRoute_40 (by decide) ?_
      cases hM
      exact rt true _ _ _ _ hP hS dX4_readOneRoute_41 rfl
    · have hM := ite_t c19 hM
      refine lv_iconst (v := (0 : Int32)) hx hb dX4_readOneRoute_22 (by decide) ?_
      cases hM
      exact rt false _ _ _ _ hP hS dX4_readOneRoute_23 rfl
  · have hM := ite_f (b2i_eq0 c4) hM
    refine lv_iconst (v := (0 : Int32)) hx hb dX4_readOneRoute_7 (by decide) ?_
    cases hM
    exact rt false _ _ _ _ hP hS dX4_readOneRoute_8 rfl
noncomputable def mX4_readPart_b65 (s_t : Int32 × Int32 × Int32 × Int32 × Int32 × Int32 × Int32 × Int32 × Int32 × Int64) (s_t_text : Nat → Int32) (s_t_read : Nat → Int32) (s_t_readPaper : Nat → Int32) (v1 : Int32) (t0 : Bool) : Option (Bool × (Int32 × Int32 × Int32 × Int32 × Int32 × Int32 × Int32 × Int32 × Int32 × Int64) × (Nat → Int32) × (Nat → Int32)) := (if t0 = true then (if v1 = (112 : Int32) then (mX4_readOnePaper (s_t.1, s_t.2.1, s_t.2.2.1, s_t.2.2.2.1, s_t.2.2.2.2.1, (s_t.2.2.2.2.2.1 + (1 : Int32)), s_t.2.2.2.2.2.2.1, s_t.2.2.2.2.2.2.2.1, s_t.2.2.2.2.2.2.2.2.1, s_t.2.2.2.2.2.2.2.2.2) s_t_text s_t_readPaper).bind (fun x89 => some (x89.1, x89.2.1, s_t_read, x89.2.2)) else (if v1 = (103 : Int32) then (mX4_readOneGrant (s_t.1, s_t.2.1, s_t.2.2.1, s_t.2.2.2.1, s_t.2.2.2.2.1, (s_t.2.2.2.2.2.1 + (1 : Int32)), s_t.2.2.2.2.2.2.1, s_t.2.2.2.2.2.2.2.1, s_t.2.2.2.2.2.2.2.2.1, s_t.2.2.2.2.2.2.2.2.2) s_t_text s_t_read).bind (fun x102 => some (x102.1, x102.2.1, x102.2.2, s_t_readPaper)) else (mX4_readOneRoute (s_t.1, s_t.2.1, s_t.2.2.1, s_t.2.2.2.1, s_t.2.2.2.2.1, (s_t.2.2.2.2.2.1 + (1 : Int32)), s_t.2.2.2.2.2.2.1, s_t.2.2.2.2.2.2.2.1, s_t.2.2.2.2.2.2.2.2.1, s_t.2.2.2.2.2.2.2.2.2) s_t_text s_t_read).bind (fun x109 => some (x109.1, x109.2.1, x109.2.2, s_t_readPaper)))) else some (false, s_t, s_t_read, s_t_readPaper))
noncomputable def mX4_readPart_b42 (s_t : Int32 × Int32 × Int32 × Int32 × Int32 × Int32 × Int32 × Int32 × Int32 × Int64) (s_t_text : Nat → Int32) (s_t_read : Nat → Int32) (s_t_readPaper : Nat → Int32) (v1 : Int32) : Option (Bool × (Int32 × Int32 × Int32 × Int32 × Int32 × Int32 × Int32 × Int32 × Int32 × Int64) × (Nat → Int32) × (Nat → Int32)) := (if v1 = (114 : Int32) then rd s_t_read 66 (41 : Int32) (fun x54 => (if (6 : Int32) ≤ x54 then mX4_readPart_b65 s_t s_t_text s_t_read s_t_readPaper v1 false else mX4_readPart_b65 s_t s_t_text s_t_read s_t_readPaper v1 true)) else mX4_readPart_b65 s_t s_t_text s_t_read s_t_readPaper v1 false)
noncomputable def mX4_readPart_b25 (s_t : Int32 × Int32 × Int32 × Int32 × Int32 × Int32 × Int32 × Int32 × Int32 × Int64) (s_t_text : Nat → Int32) (s_t_read : Nat → Int32) (s_t_readPaper : Nat → Int32) (v1 : Int32) : Option (Bool × (Int32 × Int32 × Int32 × Int32 × Int32 × Int32 × Int32 × Int32 × Int32 × Int64) × (Nat → Int32) × (Nat → Int32)) := (if v1 = (103 : Int32) then rd s_t_read 66 (0 : Int32) (fun x36 => (if x36 < (8 : Int32) then mX4_readPart_b65 s_t s_t_text s_t_read s_t_readPaper v1 true else mX4_readPart_b42 s_t s_t_text s_t_read s_t_readPaper v1)) else mX4_readPart_b42 s_t s_t_text s_t_read s_t_readPaper v1)
noncomputable def mX4_readPart (s_t : Int32 × Int32 × Int32 × Int32 × Int32 × Int32 × Int32 × Int32 × Int32 × Int64) (s_t_text : Nat → Int32) (s_t_read : Nat → Int32) (s_t_readPaper : Nat → Int32) : Option (Bool × (Int32 × Int32 × Int32 × Int32 × Int32 × Int32 × Int32 × Int32 × Int32 × Int64) × (Nat → Int32) × (Nat → Int32)) := rd s_t_text 99 s_t.2.2.2.2.2.1 (fun x8 => (if x8 = (112 : Int32) then (if s_t.2.2.2.2.2.2.1 < (6 : Int32) then mX4_readPart_b65 s_t s_t_text s_t_read s_t_readPaper x8 true else mX4_readPart_b25 s_t s_t_text s_t_read s_t_readPaper x8) else mX4_readPart_b25 s_t s_t_text s_t_read s_t_readPaper x8))
set_option maxHeartbeats 4000000 in
set_option maxRecDepth 100000 in
theorem okX4_readPart {l : Launch} {dC : Nat → ClassId} {dI : Nat → Nat → Nat} {cI cC cZ : ClassId} (a_t a_t_text a_t_paper a_t_now a_t_trial a_t_diary a_t_kept a_t_isKept a_t_seenAt a_t_worth a_t_readPaper a_t_read : Nat) (s_t : Int32 × Int32 × Int32 × Int32 × Int32 × Int32 × Int32 × Int32 × Int32 × Int64) (s_t_text : Nat → Int32) (s_t_read : Nat → Int32) (s_t_readPaper : Nat → Int32) (res : Bool × (Int32 × Int32 × Int32 × Int32 × Int32 × Int32 × Int32 × Int32 × Int32 × Int64) × (Nat → Int32) × (Nat → Int32)) (hM : mX4_readPart s_t s_t_text s_t_read s_t_readPaper = some res) : Mu l yX4_readPart cX4_readPart 3 (some .boolean) 4 94 (dC, dI) cI cC cZ [(a_t, .inr (4, [.ref a_t_text, .int s_t.1, .int s_t.2.1, .ref a_t_paper, .ref a_t_now, .ref a_t_trial, .ref a_t_diary, .int s_t.2.2.1, .int s_t.2.2.2.1, .ref a_t_kept, .ref a_t_isKept, .ref a_t_seenAt, .int s_t.2.2.2.2.1, .long s_t.2.2.2.2.2.2.2.2.2, .ref a_t_worth, .int s_t.2.2.2.2.2.1, .int s_t.2.2.2.2.2.2.1, .ref a_t_readPaper, .ref a_t_read, .int s_t.2.2.2.2.2.2.2.1, .int s_t.2.2.2.2.2.2.2.2.1])), (a_t_text, .inl (cI, 99, .inl s_t_text)), (a_t_read, .inl (cI, 66, .inl s_t_read)), (a_t_readPaper, .inl (cI, 24, .inl s_t_readPaper))] [(a_t, .inr (4, [.ref a_t_text, .int res.2.1.1, .int res.2.1.2.1, .ref a_t_paper, .ref a_t_now, .ref a_t_trial, .ref a_t_diary, .int res.2.1.2.2.1, .int res.2.1.2.2.2.1, .ref a_t_kept, .ref a_t_isKept, .ref a_t_seenAt, .int res.2.1.2.2.2.2.1, .long res.2.1.2.2.2.2.2.2.2.2.2, .ref a_t_worth, .int res.2.1.2.2.2.2.2.1, .int res.2.1.2.2.2.2.2.2.1, .ref a_t_readPaper, .ref a_t_read, .int res.2.1.2.2.2.2.2.2.2.1, .int res.2.1.2.2.2.2.2.2.2.2.1])), (a_t_text, .inl (cI, 99, .inl s_t_text)), (a_t_read, .inl (cI, 66, .inl res.2.2.1)), (a_t_readPaper, .inl (cI, 24, .inl res.2.2.2))] [.ref a_t] (some (.int (b2i res.1))) := by
  refine Mu.ofZ (by decide) (Nat.le_of_ble_eq_true rfl) [(0, .ref a_t)] rfl ?_
  intro p e s m args below meth c ls Q A hx hb hml hown hU hE hP hD hS hA rt hl
  have hown : s.vm.findClass RX4 = some m.cls := hown
  unfold mX4_readPart at hM
  refine lv_aload_n hx hb dX4_readPart_0 rfl (lv_at hl 0 rfl) ?_
  refine va_get (D := (dC, dI)) (ci := 4) (v := .ref a_t_text) (C := RX4) (T := TX4) (N := 21) hx hb hU inlX4 hown hE.1 hP 0 rfl rfl 0 (by decide) (hU _ u_4_13) (fun _ h9 => h9) rfl dX4_readPart_1 ?_
  refine lv_aload_n hx hb dX4_readPart_4 rfl (lv_at hl 0 rfl) ?_
  refine va_get (D := (dC, dI)) (ci := 4) (v := .int s_t.2.2.2.2.2.1) (C := RX4) (T := TX4) (N := 21) hx hb hU inlX4 hown hE.1 hP 0 rfl rfl 15 (by decide) (hU _ u_8_16) (fun _ h9 => h9) rfl dX4_readPart_5 ?_
  obtain ⟨g8, hM⟩ := rd_e hM
  refine va_iald hx hb hE.1 hP 1 0 rfl rfl g8 dX4_readPart_8 ?_
  refine lv_istore_n (lv' := [(1, .int (s_t_text s_t.2.2.2.2.2.1.toNatClampNeg)), (0, .ref a_t)]) hx hb dX4_readPart_9 rfl hl (by decide) rfl (fun ls hl => ?_)
  refine lv_iload_n hx hb dX4_readPart_10 rfl (lv_at hl 0 rfl) ?_
  refine lv_bipush (v := (112 : Int32)) hx hb dX4_readPart_11 (by decide) ?_
  have w_65 : ∀ (t0_65 : Bool), mX4_readPart_b65 s_t s_t_text s_t_read s_t_readPaper (s_t_text s_t.2.2.2.2.2.1.toNatClampNeg) t0_65 = some res → ∀ (ls : Array Slot) (H : Heap) (locs : List Loc), va_P (dC, dI) vwCl [(a_t, .inr (4, [.ref a_t_text, .int s_t.1, .int s_t.2.1, .ref a_t_paper, .ref a_t_now, .ref a_t_trial, .ref a_t_diary, .int s_t.2.2.1, .int s_t.2.2.2.1, .ref a_t_kept, .ref a_t_isKept, .ref a_t_seenAt, .int s_t.2.2.2.2.1, .long s_t.2.2.2.2.2.2.2.2.2, .ref a_t_worth, .int s_t.2.2.2.2.2.1, .int s_t.2.2.2.2.2.2.1, .ref a_t_readPaper, .ref a_t_read, .int s_t.2.2.2.2.2.2.2.1, .int s_t.2.2.2.2.2.2.2.2.1])), (a_t_text, .inl (cI, 99, .inl s_t_text)), (a_t_read, .inl (cI, 66, .inl s_t_read)), (a_t_readPaper, .inl (cI, 24, .inl s_t_readPaper))] H → va_D A [(a_t, .inr (4, [.ref a_t_text, .int s_t.1, .int s_t.2.1, .ref a_t_paper, .ref a_t_now, .ref a_t_trial, .ref a_t_diary, .int s_t.2.2.1, .int s_t.2.2.2.1, .ref a_t_kept, .ref a_t_isKept, .ref a_t_seenAt, .int s_t.2.2.2.2.1, .long s_t.2.2.2.2.2.2.2.2.2, .ref a_t_worth, .int s_t.2.2.2.2.2.1, .int s_t.2.2.2.2.2.2.1, .ref a_t_readPaper, .ref a_t_read, .int s_t.2.2.2.2.2.2.2.1, .int s_t.2.2.2.2.2.2.2.2.1])), (a_t_text, .inl (cI, 99, .inl s_t_text)), (a_t_read, .inl (cI, 66, .inl s_t_read)), (a_t_readPaper, .inl (cI, 24, .inl s_t_readPaper))] → va_S A s.heap H locs → lv_has ls 3 [(0, .ref a_t), (1, .int (s_t_text s_t.2.2.2.2.2.1.toNatClampNeg))] → W p l e (RM 4 94) s m args below meth c H locs 0 0 Q (F0 m 65 ls [.int (b2i t0_65)]) := by
    intro t0_65 hM ls H locs hP hD hS hl
    unfold mX4_readPart_b65 at hM
    refine lv_istore_n (lv' := [(2, .int (b2i t0_65)), (0, .ref a_t), (1, .int (s_t_text s_t.2.2.2.2.2.1.toNatClampNeg))]) hx hb dX4_readPart_65 rfl hl (by decide) rfl (fun ls hl => ?_)
    refine lv_iload_n hx hb dX4_readPart_66 rfl (lv_at hl 0 rfl) ?_
    refine lv_if_ne (tgt := 72) hx hb dX4_readPart_67 (by decide) (fun c67 => ?_) (fun c67 => ?_)
    · have hM := ite_t (b2i_ne0 c67) hM
      refine lv_aload_n hx hb dX4_readPart_72 rfl (lv_at hl 1 rfl) ?_
      refine lv_dup hx hb dX4_readPart_73 rfl ?_
      refine va_get (D := (dC, dI)) (ci := 4) (v := .int s_t.2.2.2.2.2.1) (C := RX4) (T := TX4) (N := 21) hx hb hU inlX4 hown hE.1 hP 0 rfl rfl 15 (by decide) (hU _ u_8_16) (fun _ h9 => h9) rfl dX4_readPart_74 ?_
      refine lv_iconst (v := (1 : Int32)) hx hb dX4_readPart_77 (by decide) ?_
      refine lv_iadd hx hb dX4_readPart_78 ?_
      refine va_put (D := (dC, dI)) (ci := 4) (v := .int (s_t.2.2.2.2.2.1 + (1 : Int32))) (ty := .int) (C := RX4) (T := TX4) (N := 21) hx hb hU inlX4 tyX4 tyX4_ok nmX4 hown hE.1 hP hD hS 0 rfl rfl 15 (by decide) (hU _ u_8_16) (fun _ h9 => h9) rfl (tyX4_ok 15 (by decide)) rfl rfl (Nat.le_of_ble_eq_true rfl) dX4_readPart_79 (fun H locs hP hD hS => ?_)
      have hP : va_P (dC, dI) vwCl [(a_t, .inr (4, [.ref a_t_text, .int s_t.1, .int s_t.2.1, .ref a_t_paper, .ref a_t_now, .ref a_t_trial, .ref a_t_diary, .int s_t.2.2.1, .int s_t.2.2.2.1, .ref a_t_kept, .ref a_t_isKept, .ref a_t_seenAt, .int s_t.2.2.2.2.1, .long s_t.2.2.2.2.2.2.2.2.2, .ref a_t_worth, .int (s_t.2.2.2.2.2.1 + (1 : Int32)), .int s_t.2.2.2.2.2.2.1, .ref a_t_readPaper, .ref a_t_read, .int s_t.2.2.2.2.2.2.2.1, .int s_t.2.2.2.2.2.2.2.2.1])), (a_t_text, .inl (cI, 99, .inl s_t_text)), (a_t_read, .inl (cI, 66, .inl s_t_read)), (a_t_readPaper, .inl (cI, 24, .inl s_t_readPaper))] H := hP
      have hD : va_D A [(a_t, .inr (4, [.ref a_t_text, .int s_t.1, .int s_t.2.1, .ref a_t_paper, .ref a_t_now, .ref a_t_trial, .ref a_t_diary, .int s_t.2.2.1, .int s_t.2.2.2.1, .ref a_t_kept, .ref a_t_isKept, .ref a_t_seenAt, .int s_t.2.2.2.2.1, .long s_t.2.2.2.2.2.2.2.2.2, .ref a_t_worth, .int (s_t.2.2.2.2.2.1 + (1 : Int32)), .int s_t.2.2.2.2.2.2.1, .ref a_t_readPaper, .ref a_t_read, .int s_t.2.2.2.2.2.2.2.1, .int s_t.2.2.2.2.2.2.2.2.1])), (a_t_text, .inl (cI, 99, .inl s_t_text)), (a_t_read, .inl (cI, 66, .inl s_t_read)), (a_t_readPaper, .inl (cI, 24, .inl s_t_readPaper))] := hD
      refine lv_iload_n hx hb dX4_readPart_82 rfl (lv_at hl 2 rfl) ?_
      refine lv_bipush (v := (112 : Int32)) hx hb dX4_readPart_83 (by decide) ?_
      refine lv_icmp_ne (tgt := 95) hx hb dX4_readPart_85 (by decide) (fun c85 => ?_) (fun c85 => ?_)
      · have hM := ite_f c85 hM
        refine lv_iload_n hx hb dX4_readPart_95 rfl (lv_at hl 2 rfl) ?_
        refine lv_bipush (v := (103 : Int32)) hx hb dX4_readPart_96 (by decide) ?_
        refine lv_icmp_ne (tgt := 108) hx hb dX4_readPart_98 (by decide) (fun c98 => ?_) (fun c98 => ?_)
        · have hM := ite_f c98 hM
          refine lv_aload_n hx hb dX4_readPart_108 rfl (lv_at hl 1 rfl) ?_
          obtain ⟨x109, h109, hM⟩ := bind_e hM
          refine muV (As := []) (rest := []) (st2 := [.int (b2i x109.1)]) (nw := [(a_t, .inr (4, [.ref a_t_text, .int x109.2.1.1, .int x109.2.1.2.1, .ref a_t_paper, .ref a_t_now, .ref a_t_trial, .ref a_t_diary, .int x109.2.1.2.2.1, .int x109.2.1.2.2.2.1, .ref a_t_kept, .ref a_t_isKept, .ref a_t_seenAt, .int x109.2.1.2.2.2.2.1, .long x109.2.1.2.2.2.2.2.2.2.2.2, .ref a_t_worth, .int x109.2.1.2.2.2.2.2.1, .int x109.2.1.2.2.2.2.2.2.1, .ref a_t_readPaper, .ref a_t_read, .int x109.2.1.2.2.2.2.2.2.2.1, .int x109.2.1.2.2.2.2.2.2.2.2.1])), (a_t_text, .inl (cI, 99, .inl s_t_text)), (a_t_read, .inl (cI, 66, .inl x109.2.2)), (a_t_readPaper, .inl (cI, 24, .inl s_t_readPaper))]) ⟨hx, hb, hml, hown, hU⟩ hE (okX4_readOneRoute a_t a_t_text a_t_paper a_t_now a_t_trial a_t_diary a_t_kept a_t_isKept a_t_seenAt a_t_worth a_t_readPaper a_t_read (s_t.1, s_t.2.1, s_t.2.2.1, s_t.2.2.2.1, s_t.2.2.2.2.1, (s_t.2.2.2.2.2.1 + (1 : Int32)), s_t.2.2.2.2.2.2.1, s_t.2.2.2.2.2.2.2.1, s_t.2.2.2.2.2.2.2.2.1, s_t.2.2.2.2.2.2.2.2.2) s_t_text s_t_read x109 h109) lk_X4_103 hP hD hS hA [0, 1, 2] rfl rfl rfl rfl rfl rfl hl.1 rfl (Nat.le_of_ble_eq_true rfl) ⟨Nat.le_of_ble_eq_true rfl, Nat.le_of_ble_eq_true rfl⟩ dX4_readPart_109 ⟨Nat.le_refl _, Nat.le_refl _⟩ rfl rfl rfl rfl (fun H locs hP hD hS => ?_)
          cases hM
          exact rt _ _ _ _ _ hP hS dX4_readPart_112 rfl
        · have hM := ite_t c98 hM
          refine lv_aload_n hx hb dX4_readPart_101 rfl (lv_at hl 1 rfl) ?_
          obtain ⟨x102, h102, hM⟩ := bind_e hM
          refine muV (As := []) (rest := []) (st2 := [.int (b2i x102.1)]) (nw := [(a_t, .inr (4, [.ref a_t_text, .int x102.2.1.1, .int x102.2.1.2.1, .ref a_t_paper, .ref a_t_now, .ref a_t_trial, .ref a_t_diary, .int x102.2.1.2.2.1, .int x102.2.1.2.2.2.1, .ref a_t_kept, .ref a_t_isKept, .ref a_t_seenAt, .int x102.2.1.2.2.2.2.1, .long x102.2.1.2.2.2.2.2.2.2.2.2, .ref a_t_worth, .int x102.2.1.2.2.2.2.2.1, .int x102.2.1.2.2.2.2.2.2.1, .ref a_t_readPaper, .ref a_t_read, .int x102.2.1.2.2.2.2.2.2.2.1, .int x102.2.1.2.2.2.2.2.2.2.2.1])), (a_t_text, .inl (cI, 99, .inl s_t_text)), (a_t_read, .inl (cI, 66, .inl x102.2.2)), (a_t_readPaper, .inl (cI, 24, .inl s_t_readPaper))]) ⟨hx, hb, hml, hown, hU⟩ hE (okX4_readOneGrant a_t a_t_text a_t_paper a_t_now a_t_trial a_t_diary a_t_kept a_t_isKept a_t_seenAt a_t_worth a_t_readPaper a_t_read (s_t.1, s_t.2.1, s_t.2.2.1, s_t.2.2.2.1, s_t.2.2.2.2.1, (s_t.2.2.2.2.2.1 + (1 : Int32)), s_t.2.2.2.2.2.2.1, s_t.2.2.2.2.2.2.2.1, s_t.2.2.2.2.2.2.2.2.1, s_t.2.2.2.2.2.2.2.2.2) s_t_text s_t_read x102 h102) lk_X4_100 hP hD hS hA [0, 1, 2] rfl rfl rfl rfl rfl rfl hl.1 rfl (Nat.le_of_ble_eq_true rfl) ⟨Nat.le_of_ble_eq_true rfl, Nat.le_of_ble_eq_true rfl⟩ dX4_readPart_102 ⟨Nat.le_refl _, Nat.le_refl _⟩ rfl rfl rfl rfl (fun H locs hP hD hS => ?_)
          refine lv_goto (tgt := 112) hx hb dX4_readPart_105 (by decide) ?_
          cases hM
          exact rt _ _ _ _ _ hP hS dX4_readPart_112 rfl
      · have hM := ite_t c85 hM
        refine lv_aload_n hx hb dX4_readPart_88 rfl (lv_at hl 1 rfl) ?_
        obtain ⟨x89, h89, hM⟩ := bind_e hM
        refine muV (As := []) (rest := []) (st2 := [.int (b2i x89.1)]) (nw := [(a_t, .inr (4, [.ref a_t_text, .int x89.2.1.1, .int x89.2.1.2.1, .ref a_t_paper, .ref a_t_now, .ref a_t_trial, .ref a_t_diary, .int x89.2.1.2.2.1, .int x89.2.1.2.2.2.1, .ref a_t_kept, .ref a_t_isKept, .ref a_t_seenAt, .int x89.2.1.2.2.2.2.1, .long x89.2.1.2.2.2.2.2.2.2.2.2, .ref a_t_worth, .int x89.2.1.2.2.2.2.2.1, .int x89.2.1.2.2.2.2.2.2.1, .ref a_t_readPaper, .ref a_t_read, .int x89.2.1.2.2.2.2.2.2.2.1, .int x89.2.1.2.2.2.2.2.2.2.2.1])), (a_t_text, .inl (cI, 99, .inl s_t_text)), (a_t_read, .inl (cI, 66, .inl s_t_read)), (a_t_readPaper, .inl (cI, 24, .inl x89.2.2))]) ⟨hx, hb, hml, hown, hU⟩ hE (okX4_readOnePaper a_t a_t_text a_t_paper a_t_now a_t_trial a_t_diary a_t_kept a_t_isKept a_t_seenAt a_t_worth a_t_readPaper a_t_read (s_t.1, s_t.2.1, s_t.2.2.1, s_t.2.2.2.1, s_t.2.2.2.2.1, (s_t.2.2.2.2.2.1 + (1 : Int32)), s_t.2.2.2.2.2.2.1, s_t.2.2.2.2.2.2.2.1, s_t.2.2.2.2.2.2.2.2.1, s_t.2.2.2.2.2.2.2.2.2) s_t_text s_t_readPaper x89 h89) lk_X4_97 hP hD hS hA [0, 1, 3] rfl rfl rfl rfl rfl rfl hl.1 rfl (Nat.le_of_ble_eq_true rfl) ⟨Nat.le_of_ble_eq_true rfl, Nat.le_of_ble_eq_true rfl⟩ dX4_readPart_89 ⟨Nat.le_refl _, Nat.le_refl _⟩ rfl rfl rfl rfl (fun H locs hP hD hS => ?_)
        refine lv_goto (tgt := 112) hx hb dX4_readPart_92 (by decide) ?_
        cases hM
        exact rt _ _ _ _ _ hP hS dX4_readPart_112 rfl
    · have hM := ite_f (b2i_eq0 c67) hM
      refine lv_iconst (v := (0 : Int32)) hx hb dX4_readPart_70 (by decide) ?_
      cases hM
      exact rt false _ _ _ _ hP hS dX4_readPart_71 rfl
  have w_25 : mX4_readPart_b25 s_t s_t_text s_t_read s_t_readPaper (s_t_text s_t.2.2.2.2.2.1.toNatClampNeg) = some res → ∀ (ls : Array Slot) (H : Heap) (locs : List Loc), va_P (dC, dI) vwCl [(a_t, .inr (4, [.ref a_t_text, .int s_t.1, .int s_t.2.1, .ref a_t_paper, .ref a_t_now, .ref a_t_trial, .ref a_t_diary, .int s_t.2.2.1, .int s_t.2.2.2.1, .ref a_t_kept, .ref a_t_isKept, .ref a_t_seenAt, .int s_t.2.2.2.2.1, .long s_t.2.2.2.2.2.2.2.2.2, .ref a_t_worth, .int s_t.2.2.2.2.2.1, .int s_t.2.2.2.2.2.2.1, .ref a_t_readPaper, .ref a_t_read, .int s_t.2.2.2.2.2.2.2.1, .int s_t.2.2.2.2.2.2.2.2.1])), (a_t_text, .inl (cI, 99, .inl s_t_text)), (a_t_read, .inl (cI, 66, .inl s_t_read)), (a_t_readPaper, .inl (cI, 24, .inl s_t_readPaper))] H → va_D A [(a_t, .inr (4, [.ref a_t_text, .int s_t.1, .int s_t.2.1, .ref a_t_paper, .ref a_t_now, .ref a_t_trial, .ref a_t_diary, .int s_t.2.2.1, .int s_t.2.2.2.1, .ref a_t_kept, .ref a_t_isKept, .ref a_t_seenAt, .int s_t.2.2.2.2.1, .long s_t.2.2.2.2.2.2.2.2.2, .ref a_t_worth, .int s_t.2.2.2.2.2.1, .int s_t.2.2.2.2.2.2.1, .ref a_t_readPaper, .ref a_t_read, .int s_t.2.2.2.2.2.2.2.1, .int s_t.2.2.2.2.2.2.2.2.1])), (a_t_text, .inl (cI, 99, .inl s_t_text)), (a_t_read, .inl (cI, 66, .inl s_t_read)), (a_t_readPaper, .inl (cI, 24, .inl s_t_readPaper))] → va_S A s.heap H locs → lv_has ls 3 [(0, .ref a_t), (1, .int (s_t_text s_t.2.2.2.2.2.1.toNatClampNeg))] → W p l e (RM 4 94) s m args below meth c H locs 0 0 Q (F0 m 25 ls []) := by
    intro  hM ls H locs hP hD hS hl
    unfold mX4_readPart_b25 at hM
    refine lv_iload_n hx hb dX4_readPart_25 rfl (lv_at hl 1 rfl) ?_
    refine lv_bipush (v := (103 : Int32)) hx hb dX4_readPart_26 (by decide) ?_
    have w_42 : mX4_readPart_b42 s_t s_t_text s_t_read s_t_readPaper (s_t_text s_t.2.2.2.2.2.1.toNatClampNeg) = some res → ∀ (ls : Array Slot) (H : Heap) (locs : List Loc), va_P (dC, dI) vwCl [(a_t, .inr (4, [.ref a_t_text, .int s_t.1, .int s_t.2.1, .ref a_t_paper, .ref a_t_now, .ref a_t_trial, .ref a_t_diary, .int s_t.2.2.1, .int s_t.2.2.2.1, .ref a_t_kept, .ref a_t_isKept, .ref a_t_seenAt, .int s_t.2.2.2.2.1, .long s_t.2.2.2.2.2.2.2.2.2, .ref a_t_worth, .int s_t.2.2.2.2.2.1, .int s_t.2.2.2.2.2.2.1, .ref a_t_readPaper, .ref a_t_read, .int s_t.2.2.2.2.2.2.2.1, .int s_t.2.2.2.2.2.2.2.2.1])), (a_t_text, .inl (cI, 99, .inl s_t_text)), (a_t_read, .inl (cI, 66, .inl s_t_read)), (a_t_readPaper, .inl (cI, 24, .inl s_t_readPaper))] H → va_D A [(a_t, .inr (4, [.ref a_t_text, .int s_t.1, .int s_t.2.1, .ref a_t_paper, .ref a_t_now, .ref a_t_trial, .ref a_t_diary, .int s_t.2.2.1, .int s_t.2.2.2.1, .ref a_t_kept, .ref a_t_isKept, .ref a_t_seenAt, .int s_t.2.2.2.2.1, .long s_t.2.2.2.2.2.2.2.2.2, .ref a_t_worth, .int s_t.2.2.2.2.2.1, .int s_t.2.2.2.2.2.2.1, .ref a_t_readPaper, .ref a_t_read, .int s_t.2.2.2.2.2.2.2.1, .int s_t.2.2.2.2.2.2.2.2.1])), (a_t_text, .inl (cI, 99, .inl s_t_text)), (a_t_read, .inl (cI, 66, .inl s_t_read)), (a_t_readPaper, .inl (cI, 24, .inl s_t_readPaper))] → va_S A s.heap H locs → lv_has ls 3 [(0, .ref a_t), (1, .int (s_t_text s_t.2.2.2.2.2.1.toNatClampNeg))] → W p l e (RM 4 94) s m args below meth c H locs 0 0 Q (F0 m 42 ls []) := by
      intro  hM ls H locs hP hD hS hl
      unfold mX4_readPart_b42 at hM
      refine lv_iload_n hx hb dX4_readPart_42 rfl (lv_at hl 1 rfl) ?_
      refine lv_bipush (v := (114 : Int32)) hx hb dX4_readPart_43 (by decide) ?_
      refine lv_icmp_ne (tgt := 64) hx hb dX4_readPart_45 (by decide) (fun c45 => ?_) (fun c45 => ?_)
      · have hM := ite_f c45 hM
        refine lv_iconst (v := (0 : Int32)) hx hb dX4_readPart_64 (by decide) ?_
        exact w_65 false hM ls _ _ hP hD hS (lv_sub hl [0, 1] rfl)
      · have hM := ite_t c45 hM
        refine lv_aload_n hx hb dX4_readPart_48 rfl (lv_at hl 0 rfl) ?_
        refine va_get (D := (dC, dI)) (ci := 4) (v := .ref a_t_read) (C := RX4) (T := TX4) (N := 21) hx hb hU inlX4 hown hE.1 hP 0 rfl rfl 18 (by decide) (hU _ u_5_0) (fun _ h9 => h9) rfl dX4_readPart_49 ?_
        refine lv_bipush (v := (41 : Int32)) hx hb dX4_readPart_52 (by decide) ?_
        obtain ⟨g54, hM⟩ := rd_e hM
        refine va_iald hx hb hE.1 hP 2 0 rfl rfl g54 dX4_readPart_54 ?_
        refine lv_bipush (v := (6 : Int32)) hx hb dX4_readPart_55 (by decide) ?_
        refine lv_icmp_ge (tgt := 64) hx hb dX4_readPart_57 (by decide) (fun c57 => ?_) (fun c57 => ?_)
        · have hM := ite_t c57 hM
          refine lv_iconst (v := (0 : Int32)) hx hb dX4_readPart_64 (by decide) ?_
          exact w_65 false hM ls _ _ hP hD hS (lv_sub hl [0, 1] rfl)
        · have hM := ite_f c57 hM
          refine lv_iconst (v := (1 : Int32)) hx hb dX4_readPart_60 (by decide) ?_
          refine lv_goto (tgt := 65) hx hb dX4_readPart_61 (by decide) ?_
          exact w_65 true hM ls _ _ hP hD hS (lv_sub hl [0, 1] rfl)
    refine lv_icmp_ne (tgt := 42) hx hb dX4_readPart_28 (by decide) (fun c28 => ?_) (fun c28 => ?_)
    · have hM := ite_f c28 hM
      exact w_42  hM ls _ _ hP hD hS (lv_sub hl [0, 1] rfl)
    · have hM := ite_t c28 hM
      refine lv_aload_n hx hb dX4_readPart_31 rfl (lv_at hl 0 rfl) ?_
      refine va_get (D := (dC, dI)) (ci := 4) (v := .ref a_t_read) (C := RX4) (T := TX4) (N := 21) hx hb hU inlX4 hown hE.1 hP 0 rfl rfl 18 (by decide) (hU _ u_5_0) (fun _ h9 => h9) rfl dX4_readPart_32 ?_
      refine lv_iconst (v := (0 : Int32)) hx hb dX4_readPart_35 (by decide) ?_
      obtain ⟨g36, hM⟩ := rd_e hM
      refine va_iald hx hb hE.1 hP 2 0 rfl rfl g36 dX4_readPart_36 ?_
      refine lv_bipush (v := (8 : Int32)) hx hb dX4_readPart_37 (by decide) ?_
      refine lv_icmp_lt (tgt := 60) hx hb dX4_readPart_39 (by decide) (fun c39 => ?_) (fun c39 => ?_)
      · have hM := ite_t c39 hM
        refine lv_iconst (v := (1 : Int32)) hx hb dX4_readPart_60 (by decide) ?_
        refine lv_goto (tgt := 65) hx hb dX4_readPart_61 (by decide) ?_
        exact w_65 true hM ls _ _ hP hD hS (lv_sub hl [0, 1] rfl)
      · have hM := ite_f c39 hM
        exact w_42  hM ls _ _ hP hD hS (lv_sub hl [0, 1] rfl)
  refine lv_icmp_ne (tgt := 25) hx hb dX4_readPart_13 (by decide) (fun c13 => ?_) (fun c13 => ?_)
  · have hM := ite_f c13 hM
    exact w_25  hM ls _ _ hP hD hS (lv_sub hl [1, 0] rfl)
  · have hM := ite_t c13 hM
    refine lv_aload_n hx hb dX4_readPart_16 rfl (lv_at hl 1 rfl) ?_
    refine va_get (D := (dC, dI)) (ci := 4) (v := .int s_t.2.2.2.2.2.2.1) (C := RX4) (T := TX4) (N := 21) hx hb hU inlX4 hown hE.1 hP 0 rfl rfl 16 (by decide) (hU _ u_8_15) (fun _ h9 => h9) rfl dX4_readPart_17 ?_
    refine lv_bipush (v := (6 : Int32)) hx hb dX4_readPart_20 (by decide) ?_
    refine lv_icmp_lt (tgt := 60) hx hb dX4_readPart_22 (by decide) (fun c22 => ?_) (fun c22 => ?_)
    · have hM := ite_t c22 hM
      refine lv_iconst (v := (1 : Int32)) hx hb dX4_readPart_60 (by decide) ?_
      refine lv_goto (tgt := 65) hx hb dX4_readPart_61 (by decide) ?_
      exact w_65 true hM ls _ _ hP hD hS (lv_sub hl [1, 0] rfl)
    · have hM := ite_f c22 hM
      exact w_25  hM ls _ _ hP hD hS (lv_sub hl [1, 0] rfl)
noncomputable def mX4_readText_b51 (s_t_text : Nat → Int32) : Nat → Int32 × Int32 × Int32 × Int32 × Int32 × Int32 × Int32 × Int32 × Int32 × Int64 → (Nat → Int32) → (Nat → Int32) → Option (Int32 × (Int32 × Int32 × Int32 × Int32 × Int32 × Int32 × Int32 × Int32 × Int32 × Int64) × (Nat → Int32) × (Nat → Int32))
  | 0, _, _, _ => none
  | n + 1, s_t, s_t_read, s_t_readPaper => (if s_t.1 ≤ s_t.2.2.2.2.2.1 then some ((-9 : Int32), s_t, s_t_read, s_t_readPaper) else (mX4_readPart s_t s_t_text s_t_read s_t_readPaper).bind (fun x63 => (if x63.1 = true then mX4_readText_b51 s_t_text n x63.2.1 x63.2.2.1 x63.2.2.2 else some (x63.2.1.2.2.2.2.2.1, x63.2.1, x63.2.2.1, x63.2.2.2))))
noncomputable def mX4_readText_b7 (s_t : Int32 × Int32 × Int32 × Int32 × Int32 × Int32 × Int32 × Int32 × Int32 × Int64) (s_t_text : Nat → Int32) (s_t_readPaper : Nat → Int32) : Nat → Int32 → (Nat → Int32) → Option (Int32 × (Int32 × Int32 × Int32 × Int32 × Int32 × Int32 × Int32 × Int32 × Int32 × Int64) × (Nat → Int32) × (Nat → Int32))
  | 0, _, _ => none
  | n + 1, v1, s_t_read => (if (66 : Int32) ≤ v1 then (if s_t.1 = 0 then some ((0 : Int32), s_t, s_t_read, s_t_readPaper) else rd s_t_text 99 (0 : Int32) (fun x38 => (if x38 = (80 : Int32) then mX4_readText_b51 s_t_text FU (s_t.1, s_t.2.1, s_t.2.2.1, s_t.2.2.2.1, s_t.2.2.2.2.1, (1 : Int32), s_t.2.2.2.2.2.2.1, s_t.2.2.2.2.2.2.2.1, s_t.2.2.2.2.2.2.2.2.1, s_t.2.2.2.2.2.2.2.2.2) s_t_read s_t_readPaper else some ((0 : Int32), s_t, s_t_read, s_t_readPaper)))) else wr s_t_read 66 v1 (0 : Int32) (fun x19 => mX4_readText_b7 s_t s_t_text s_t_readPaper n (v1 + (1 : Int32)) x19))
noncomputable def mX4_readText (s_t : Int32 × Int32 × Int32 × Int32 × Int32 × Int32 × Int32 × Int32 × Int32 × Int64) (s_t_text : Nat → Int32) (s_t_read : Nat → Int32) (s_t_readPaper : Nat → Int32) : Option (Int32 × (Int32 × Int32 × Int32 × Int32 × Int32 × Int32 × Int32 × Int32 × Int32 × Int64) × (Nat → Int32) × (Nat → Int32)) := mX4_readText_b7 (s_t.1, s_t.2.1, s_t.2.2.1, s_t.2.2.2.1, s_t.2.2.2.2.1, s_t.2.2.2.2.2.1, (1 : Int32), s_t.2.2.2.2.2.2.2.1, s_t.2.2.2.2.2.2.2.2.1, s_t.2.2.2.2.2.2.2.2.2) s_t_text s_t_readPaper FU (0 : Int32) s_t_read
set_option maxHeartbeats 4000000 in
set_option maxRecDepth 100000 in
theorem okX4_readText {l : Launch} {dC : Nat → ClassId} {dI : Nat → Nat → Nat} {cI cC cZ : ClassId} (a_t a_t_text a_t_paper a_t_now a_t_trial a_t_diary a_t_kept a_t_isKept a_t_seenAt a_t_worth a_t_readPaper a_t_read : Nat) (s_t : Int32 × Int32 × Int32 × Int32 × Int32 × Int32 × Int32 × Int32 × Int32 × Int64) (s_t_text : Nat → Int32) (s_t_read : Nat → Int32) (s_t_readPaper : Nat → Int32) (res : Int32 × (Int32 × Int32 × Int32 × Int32 × Int32 × Int32 × Int32 × Int32 × Int32 × Int64) × (Nat → Int32) × (Nat → Int32)) (hM : mX4_readText s_t s_t_text s_t_read s_t_readPaper = some res) : Mu l yX4_readText cX4_readText 2 (some .int) 5 116 (dC, dI) cI cC cZ [(a_t, .inr (4, [.ref a_t_text, .int s_t.1, .int s_t.2.1, .ref a_t_paper, .ref a_t_now, .ref a_t_trial, .ref a_t_diary, .int s_t.2.2.1, .int s_t.2.2.2.1, .ref a_t_kept, .ref a_t_isKept, .ref a_t_seenAt, .int s_t.2.2.2.2.1, .long s_t.2.2.2.2.2.2.2.2.2, .ref a_t_worth, .int s_t.2.2.2.2.2.1, .int s_t.2.2.2.2.2.2.1, .ref a_t_readPaper, .ref a_t_read, .int s_t.2.2.2.2.2.2.2.1, .int s_t.2.2.2.2.2.2.2.2.1])), (a_t_text, .inl (cI, 99, .inl s_t_text)), (a_t_read, .inl (cI, 66, .inl s_t_read)), (a_t_readPaper, .inl (cI, 24, .inl s_t_readPaper))] [(a_t, .inr (4, [.ref a_t_text, .int res.2.1.1, .int res.2.1.2.1, .ref a_t_paper, .ref a_t_now, .ref a_t_trial, .ref a_t_diary, .int res.2.1.2.2.1, .int res.2.1.2.2.2.1, .ref a_t_kept, .ref a_t_isKept, .ref a_t_seenAt, .int res.2.1.2.2.2.2.1, .long res.2.1.2.2.2.2.2.2.2.2.2, .ref a_t_worth, .int res.2.1.2.2.2.2.2.1, .int res.2.1.2.2.2.2.2.2.1, .ref a_t_readPaper, .ref a_t_read, .int res.2.1.2.2.2.2.2.2.2.1, .int res.2.1.2.2.2.2.2.2.2.2.1])), (a_t_text, .inl (cI, 99, .inl s_t_text)), (a_t_read, .inl (cI, 66, .inl res.2.2.1)), (a_t_readPaper, .inl (cI, 24, .inl res.2.2.2))] [.ref a_t] (some (.int res.1)) := by
  refine Mu.ofI (by decide) (Nat.le_of_ble_eq_true rfl) [(0, .ref a_t)] rfl ?_
  intro p e s m args below meth c ls Q A hx hb hml hown hU hE hP hD hS hA rt hl
  have hown : s.vm.findClass RX4 = some m.cls := hown
  unfold mX4_readText at hM
  refine lv_aload_n hx hb dX4_readText_0 rfl (lv_at hl 0 rfl) ?_
  refine lv_iconst (v := (1 : Int32)) hx hb dX4_readText_1 (by decide) ?_
  refine va_put (D := (dC, dI)) (ci := 4) (v := .int (1 : Int32)) (ty := .int) (C := RX4) (T := TX4) (N := 21) hx hb hU inlX4 tyX4 tyX4_ok nmX4 hown hE.1 hP hD hS 0 rfl rfl 16 (by decide) (hU _ u_8_15) (fun _ h9 => h9) rfl (tyX4_ok 16 (by decide)) rfl rfl (Nat.le_of_ble_eq_true rfl) dX4_readText_2 (fun H locs hP hD hS => ?_)
  have hP : va_P (dC, dI) vwCl [(a_t, .inr (4, [.ref a_t_text, .int s_t.1, .int s_t.2.1, .ref a_t_paper, .ref a_t_now, .ref a_t_trial, .ref a_t_diary, .int s_t.2.2.1, .int s_t.2.2.2.1, .ref a_t_kept, .ref a_t_isKept, .ref a_t_seenAt, .int s_t.2.2.2.2.1, .long s_t.2.2.2.2.2.2.2.2.2, .ref a_t_worth, .int s_t.2.2.2.2.2.1, .int (1 : Int32), .ref a_t_readPaper, .ref a_t_read, .int s_t.2.2.2.2.2.2.2.1, .int s_t.2.2.2.2.2.2.2.2.1])), (a_t_text, .inl (cI, 99, .inl s_t_text)), (a_t_read, .inl (cI, 66, .inl s_t_read)), (a_t_readPaper, .inl (cI, 24, .inl s_t_readPaper))] H := hP
  have hD : va_D A [(a_t, .inr (4, [.ref a_t_text, .int s_t.1, .int s_t.2.1, .ref a_t_paper, .ref a_t_now, .ref a_t_trial, .ref a_t_diary, .int s_t.2.2.1, .int s_t.2.2.2.1, .ref a_t_kept, .ref a_t_isKept, .ref a_t_seenAt, .int s_t.2.2.2.2.1, .long s_t.2.2.2.2.2.2.2.2.2, .ref a_t_worth, .int s_t.2.2.2.2.2.1, .int (1 : Int32), .ref a_t_readPaper, .ref a_t_read, .int s_t.2.2.2.2.2.2.2.1, .int s_t.2.2.2.2.2.2.2.2.1])), (a_t_text, .inl (cI, 99, .inl s_t_text)), (a_t_read, .inl (cI, 66, .inl s_t_read)), (a_t_readPaper, .inl (cI, 24, .inl s_t_readPaper))] := hD
  refine lv_iconst (v := (0 : Int32)) hx hb dX4_readText_5 (by decide) ?_
  refine lv_istore_n (lv' := [(1, .int (0 : Int32)), (0, .ref a_t)]) hx hb dX4_readText_6 rfl hl (by decide) rfl (fun ls hl => ?_)
  have w_7 : ∀ (n : Nat) (v1_7 : Int32) (s_t_read_7 : Nat → Int32), mX4_readText_b7 (s_t.1, s_t.2.1, s_t.2.2.1, s_t.2.2.2.1, s_t.2.2.2.2.1, s_t.2.2.2.2.2.1, (1 : Int32), s_t.2.2.2.2.2.2.2.1, s_t.2.2.2.2.2.2.2.2.1, s_t.2.2.2.2.2.2.2.2.2) s_t_text s_t_readPaper n v1_7 s_t_read_7 = some res → ∀ (ls : Array Slot) (H : Heap) (locs : List Loc), va_P (dC, dI) vwCl [(a_t, .inr (4, [.ref a_t_text, .int s_t.1, .int s_t.2.1, .ref a_t_paper, .ref a_t_now, .ref a_t_trial, .ref a_t_diary, .int s_t.2.2.1, .int s_t.2.2.2.1, .ref a_t_kept, .ref a_t_isKept, .ref a_t_seenAt, .int s_t.2.2.2.2.1, .long s_t.2.2.2.2.2.2.2.2.2, .ref a_t_worth, .int s_t.2.2.2.2.2.1, .int (1 : Int32), .ref a_t_readPaper, .ref a_t_read, .int s_t.2.2.2.2.2.2.2.1, .int s_t.2.2.2.2.2.2.2.2.1])), (a_t_text, .inl (cI, 99, .inl s_t_text)), (a_t_read, .inl (cI, 66, .inl s_t_read_7)), (a_t_readPaper, .inl (cI, 24, .inl s_t_readPaper))] H → va_D A [(a_t, .inr (4, [.ref a_t_text, .int s_t.1, .int s_t.2.1, .ref a_t_paper, .ref a_t_now, .ref a_t_trial, .ref a_t_diary, .int s_t.2.2.1, .int s_t.2.2.2.1, .ref a_t_kept, .ref a_t_isKept, .ref a_t_seenAt, .int s_t.2.2.2.2.1, .long s_t.2.2.2.2.2.2.2.2.2, .ref a_t_worth, .int s_t.2.2.2.2.2.1, .int (1 : Int32), .ref a_t_readPaper, .ref a_t_read, .int s_t.2.2.2.2.2.2.2.1, .int s_t.2.2.2.2.2.2.2.2.1])), (a_t_text, .inl (cI, 99, .inl s_t_text)), (a_t_read, .inl (cI, 66, .inl s_t_read_7)), (a_t_readPaper, .inl (cI, 24, .inl s_t_readPaper))] → va_S A s.heap H locs → lv_has ls 2 [(0, .ref a_t), (1, .int v1_7)] → W p l e (RM 5 116) s m args below meth c H locs 0 0 Q (F0 m 7 ls []) := by
    intro n
    induction n with
    | zero =>
      intro v1_7 s_t_read_7 hM
      rw [mX4_readText_b7] at hM
      cases hM
    | succ n_7 ih_7 =>
      intro v1_7 s_t_read_7 hM ls H locs hP hD hS hl
      rw [mX4_readText_b7] at hM
      refine lv_iload_n hx hb dX4_readText_7 rfl (lv_at hl 1 rfl) ?_
      refine lv_bipush (v := (66 : Int32)) hx hb dX4_readText_8 (by decide) ?_
      refine lv_icmp_ge (tgt := 26) hx hb dX4_readText_10 (by decide) (fun c10 => ?_) (fun c10 => ?_)
      · have hM := ite_t c10 hM
        refine lv_aload_n hx hb dX4_readText_26 rfl (lv_at hl 0 rfl) ?_
        refine va_get (D := (dC, dI)) (ci := 4) (v := .int s_t.1) (C := RX4) (T := TX4) (N := 21) hx hb hU inlX4 hown hE.1 hP 0 rfl rfl 1 (by decide) (hU _ u_5_17) (fun _ h9 => h9) rfl dX4_readText_27 ?_
        refine lv_if_eq (tgt := 44) hx hb dX4_readText_30 (by decide) (fun c30 => ?_) (fun c30 => ?_)
        · have hM := ite_t c30 hM
          refine lv_iconst (v := (0 : Int32)) hx hb dX4_readText_44 (by decide) ?_
          cases hM
          exact rt _ _ _ _ _ hP hS dX4_readText_45 rfl
        · have hM := ite_f c30 hM
          refine lv_aload_n hx hb dX4_readText_33 rfl (lv_at hl 0 rfl) ?_
          refine va_get (D := (dC, dI)) (ci := 4) (v := .ref a_t_text) (C := RX4) (T := TX4) (N := 21) hx hb hU inlX4 hown hE.1 hP 0 rfl rfl 0 (by decide) (hU _ u_4_13) (fun _ h9 => h9) rfl dX4_readText_34 ?_
          refine lv_iconst (v := (0 : Int32)) hx hb dX4_readText_37 (by decide) ?_
          obtain ⟨g38, hM⟩ := rd_e hM
          refine va_iald hx hb hE.1 hP 1 0 rfl rfl g38 dX4_readText_38 ?_
          refine lv_bipush (v := (80 : Int32)) hx hb dX4_readText_39 (by decide) ?_
          refine lv_icmp_eq (tgt := 46) hx hb dX4_readText_41 (by decide) (fun c41 => ?_) (fun c41 => ?_)
          · have hM := ite_t c41 hM
            refine lv_aload_n hx hb dX4_readText_46 rfl (lv_at hl 0 rfl) ?_
            refine lv_iconst (v := (1 : Int32)) hx hb dX4_readText_47 (by decide) ?_
            refine va_put (D := (dC, dI)) (ci := 4) (v := .int (1 : Int32)) (ty := .int) (C := RX4) (T := TX4) (N := 21) hx hb hU inlX4 tyX4 tyX4_ok nmX4 hown hE.1 hP hD hS 0 rfl rfl 15 (by decide) (hU _ u_8_16) (fun _ h9 => h9) rfl (tyX4_ok 15 (by decide)) rfl rfl (Nat.le_of_ble_eq_true rfl) dX4_readText_48 (fun H locs hP hD hS => ?_)
            have hP : va_P (dC, dI) vwCl [(a_t, .inr (4, [.ref a_t_text, .int s_t.1, .int s_t.2.1, .ref a_t_paper, .ref a_t_now, .ref a_t_trial, .ref a_t_diary, .int s_t.2.2.1, .int s_t.2.2.2.1, .ref a_t_kept, .ref a_t_isKept, .ref a_t_seenAt, .int s_t.2.2.2.2.1, .long s_t.2.2.2.2.2.2.2.2.2, .ref a_t_worth, .int (1 : Int32), .int (1 : Int32), .ref a_t_readPaper, .ref a_t_read, .int s_t.2.2.2.2.2.2.2.1, .int s_t.2.2.2.2.2.2.2.2.1])), (a_t_text, .inl (cI, 99, .inl s_t_text)), (a_t_read, .inl (cI, 66, .inl s_t_read_7)), (a_t_readPaper, .inl (cI, 24, .inl s_t_readPaper))] H := hP
            have hD : va_D A [(a_t, .inr (4, [.ref a_t_text, .int s_t.1, .int s_t.2.1, .ref a_t_paper, .ref a_t_now, .ref a_t_trial, .ref a_t_diary, .int s_t.2.2.1, .int s_t.2.2.2.1, .ref a_t_kept, .ref a_t_isKept, .ref a_t_seenAt, .int s_t.2.2.2.2.1, .long s_t.2.2.2.2.2.2.2.2.2, .ref a_t_worth, .int (1 : Int32), .int (1 : Int32), .ref a_t_readPaper, .ref a_t_read, .int s_t.2.2.2.2.2.2.2.1, .int s_t.2.2.2.2.2.2.2.2.1])), (a_t_text, .inl (cI, 99, .inl s_t_text)), (a_t_read, .inl (cI, 66, .inl s_t_read_7)), (a_t_readPaper, .inl (cI, 24, .inl s_t_readPaper))] := hD
            have w_51 : ∀ (n : Nat) (s_t_51 : Int32 × Int32 × Int32 × Int32 × Int32 × Int32 × Int32 × Int32 × Int32 × Int64) (s_t_read_51 : Nat → Int32) (s_t_readPaper_51 : Nat → Int32), mX4_readText_b51 s_t_text n s_t_51 s_t_read_51 s_t_readPaper_51 = some res → ∀ (ls : Array Slot) (H : Heap) (locs : List Loc), va_P (dC, dI) vwCl [(a_t, .inr (4, [.ref a_t_text, .int s_t_51.1, .int s_t_51.2.1, .ref a_t_paper, .ref a_t_now, .ref a_t_trial, .ref a_t_diary, .int s_t_51.2.2.1, .int s_t_51.2.2.2.1, .ref a_t_kept, .ref a_t_isKept, .ref a_t_seenAt, .int s_t_51.2.2.2.2.1, .long s_t_51.2.2.2.2.2.2.2.2.2, .ref a_t_worth, .int s_t_51.2.2.2.2.2.1, .int s_t_51.2.2.2.2.2.2.1, .ref a_t_readPaper, .ref a_t_read, .int s_t_51.2.2.2.2.2.2.2.1, .int s_t_51.2.2.2.2.2.2.2.2.1])), (a_t_text, .inl (cI, 99, .inl s_t_text)), (a_t_read, .inl (cI, 66, .inl s_t_read_51)), (a_t_readPaper, .inl (cI, 24, .inl s_t_readPaper_51))] H → va_D A [(a_t, .inr (4, [.ref a_t_text, .int s_t_51.1, .int s_t_51.2.1, .ref a_t_paper, .ref a_t_now, .ref a_t_trial, .ref a_t_diary, .int s_t_51.2.2.1, .int s_t_51.2.2.2.1, .ref a_t_kept, .ref a_t_isKept, .ref a_t_seenAt, .int s_t_51.2.2.2.2.1, .long s_t_51.2.2.2.2.2.2.2.2.2, .ref a_t_worth, .int s_t_51.2.2.2.2.2.1, .int s_t_51.2.2.2.2.2.2.1, .ref a_t_readPaper, .ref a_t_read, .int s_t_51.2.2.2.2.2.2.2.1, .int s_t_51.2.2.2.2.2.2.2.2.1])), (a_t_text, .inl (cI, 99, .inl s_t_text)), (a_t_read, .inl (cI, 66, .inl s_t_read_51)), (a_t_readPaper, .inl (cI, 24, .inl s_t_readPaper_51))] → va_S A s.heap H locs → lv_has ls 2 [(0, .ref a_t)] → W p l e (RM 5 116) s m args below meth c H locs 0 0 Q (F0 m 51 ls []) := by
              intro n
              induction n with
              | zero =>
                intro s_t_51 s_t_read_51 s_t_readPaper_51 hM
                rw [mX4_readText_b51] at hM
                cases hM
              | succ n_51 ih_51 =>
                intro s_t_51 s_t_read_51 s_t_readPaper_51 hM ls H locs hP hD hS hl
                rw [mX4_readText_b51] at hM
                refine lv_aload_n hx hb dX4_readText_51 rfl (lv_at hl 0 rfl) ?_
                refine va_get (D := (dC, dI)) (ci := 4) (v := .int s_t_51.2.2.2.2.2.1) (C := RX4) (T := TX4) (N := 21) hx hb hU inlX4 hown hE.1 hP 0 rfl rfl 15 (by decide) (hU _ u_8_16) (fun _ h9 => h9) rfl dX4_readText_52 ?_
                refine lv_aload_n hx hb dX4_readText_55 rfl (lv_at hl 0 rfl) ?_
                refine va_get (D := (dC, dI)) (ci := 4) (v := .int s_t_51.1) (C := RX4) (T := TX4) (N := 21) hx hb hU inlX4 hown hE.1 hP 0 rfl rfl 1 (by decide) (hU _ u_5_17) (fun _ h9 => h9) rfl dX4_readText_56 ?_
                refine lv_icmp_ge (tgt := 74) hx hb dX4_readText_59 (by decide) (fun c59 => ?_) (fun c59 => ?_)
                · have hM := ite_t c59 hM
                  refine lv_bipush (v := (-9 : Int32)) hx hb dX4_readText_74 (by decide) ?_
                  cases hM
                  exact rt _ _ _ _ _ hP hS dX4_readText_76 rfl
                · have hM := ite_f c59 hM
                  refine lv_aload_n hx hb dX4_readText_62 rfl (lv_at hl 0 rfl) ?_
                  obtain ⟨x63, h63, hM⟩ := bind_e hM
                  refine muV (As := []) (rest := []) (st2 := [.int (b2i x63.1)]) (nw := [(a_t, .inr (4, [.ref a_t_text, .int x63.2.1.1, .int x63.2.1.2.1, .ref a_t_paper, .ref a_t_now, .ref a_t_trial, .ref a_t_diary, .int x63.2.1.2.2.1, .int x63.2.1.2.2.2.1, .ref a_t_kept, .ref a_t_isKept, .ref a_t_seenAt, .int x63.2.1.2.2.2.2.1, .long x63.2.1.2.2.2.2.2.2.2.2.2, .ref a_t_worth, .int x63.2.1.2.2.2.2.2.1, .int x63.2.1.2.2.2.2.2.2.1, .ref a_t_readPaper, .ref a_t_read, .int x63.2.1.2.2.2.2.2.2.2.1, .int x63.2.1.2.2.2.2.2.2.2.2.1])), (a_t_text, .inl (cI, 99, .inl s_t_text)), (a_t_read, .inl (cI, 66, .inl x63.2.2.1)), (a_t_readPaper, .inl (cI, 24, .inl x63.2.2.2))]) ⟨hx, hb, hml, hown, hU⟩ hE (okX4_readPart a_t a_t_text a_t_paper a_t_now a_t_trial a_t_diary a_t_kept a_t_isKept a_t_seenAt a_t_worth a_t_readPaper a_t_read s_t_51 s_t_text s_t_read_51 s_t_readPaper_51 x63 h63) lk_X4_106 hP hD hS hA [0, 1, 2, 3] rfl rfl rfl rfl rfl rfl hl.1 rfl (Nat.le_of_ble_eq_true rfl) ⟨Nat.le_of_ble_eq_true rfl, Nat.le_of_ble_eq_true rfl⟩ dX4_readText_63 ⟨Nat.le_refl _, Nat.le_refl _⟩ rfl rfl rfl rfl (fun H locs hP hD hS => ?_)
                  refine lv_if_ne (tgt := 51) hx hb dX4_readText_66 (by decide) (fun c66 => ?_) (fun c66 => ?_)
                  · have hM := ite_t (b2i_ne0 c66) hM
                    exact ih_51 x63.2.1 x63.2.2.1 x63.2.2.2 hM ls _ _ hP hD hS (lv_sub hl [0] rfl)
                  · have hM := ite_f (b2i_eq0 c66) hM
                    refine lv_aload_n hx hb dX4_readText_69 rfl (lv_at hl 0 rfl) ?_
                    refine va_get (D := (dC, dI)) (ci := 4) (v := .int x63.2.1.2.2.2.2.2.1) (C := RX4) (T := TX4) (N := 21) hx hb hU inlX4 hown hE.1 hP 0 rfl rfl 15 (by decide) (hU _ u_8_16) (fun _ h9 => h9) rfl dX4_readText_70 ?_
                    cases hM
                    exact rt _ _ _ _ _ hP hS dX4_readText_73 rfl
            exact w_51 FU (s_t.1, s_t.2.1, s_t.2.2.1, s_t.2.2.2.1, s_t.2.2.2.2.1, (1 : Int32), (1 : Int32), s_t.2.2.2.2.2.2.2.1, s_t.2.2.2.2.2.2.2.2.1, s_t.2.2.2.2.2.2.2.2.2) s_t_read_7 s_t_readPaper hM ls _ _ hP hD hS (lv_sub hl [0] rfl)
          · have hM := ite_f c41 hM
            refine lv_iconst (v := (0 : Int32)) hx hb dX4_readText_44 (by decide) ?_
            cases hM
            exact rt _ _ _ _ _ hP hS dX4_readText_45 rfl
      · have hM := ite_f c10 hM
        refine lv_aload_n hx hb dX4_readText_13 rfl (lv_at hl 0 rfl) ?_
        refine va_get (D := (dC, dI)) (ci := 4) (v := .ref a_t_read) (C := RX4) (T := TX4) (N := 21) hx hb hU inlX4 hown hE.1 hP 0 rfl rfl 18 (by decide) (hU _ u_5_0) (fun _ h9 => h9) rfl dX4_readText_14 ?_
        refine lv_iload_n hx hb dX4_readText_17 rfl (lv_at hl 1 rfl) ?_
        refine lv_iconst (v := (0 : Int32)) hx hb dX4_readText_18 (by decide) ?_
        obtain ⟨g19, hM⟩ := wr_e hM
        refine va_iast hx hb hE.1 hP hD hS 2 0 rfl rfl g19 dX4_readText_19 (fun H locs hP hD hS => ?_)
        have hP : va_P (dC, dI) vwCl [(a_t, .inr (4, [.ref a_t_text, .int s_t.1, .int s_t.2.1, .ref a_t_paper, .ref a_t_now, .ref a_t_trial, .ref a_t_diary, .int s_t.2.2.1, .int s_t.2.2.2.1, .ref a_t_kept, .ref a_t_isKept, .ref a_t_seenAt, .int s_t.2.2.2.2.1, .long s_t.2.2.2.2.2.2.2.2.2, .ref a_t_worth, .int s_t.2.2.2.2.2.1, .int (1 : Int32), .ref a_t_readPaper, .ref a_t_read, .int s_t.2.2.2.2.2.2.2.1, .int s_t.2.2.2.2.2.2.2.2.1])), (a_t_text, .inl (cI, 99, .inl s_t_text)), (a_t_read, .inl (cI, 66, .inl (upd s_t_read_7 v1_7.toNatClampNeg (0 : Int32)))), (a_t_readPaper, .inl (cI, 24, .inl s_t_readPaper))] H := hP
        have hD : va_D A [(a_t, .inr (4, [.ref a_t_text, .int s_t.1, .int s_t.2.1, .ref a_t_paper, .ref a_t_now, .ref a_t_trial, .ref a_t_diary, .int s_t.2.2.1, .int s_t.2.2.2.1, .ref a_t_kept, .ref a_t_isKept, .ref a_t_seenAt, .int s_t.2.2.2.2.1, .long s_t.2.2.2.2.2.2.2.2.2, .ref a_t_worth, .int s_t.2.2.2.2.2.1, .int (1 : Int32), .ref a_t_readPaper, .ref a_t_read, .int s_t.2.2.2.2.2.2.2.1, .int s_t.2.2.2.2.2.2.2.2.1])), (a_t_text, .inl (cI, 99, .inl s_t_text)), (a_t_read, .inl (cI, 66, .inl (upd s_t_read_7 v1_7.toNatClampNeg (0 : Int32)))), (a_t_readPaper, .inl (cI, 24, .inl s_t_readPaper))] := hD
        refine lv_iinc (v := (v1_7 + (1 : Int32))) (lv' := [(1, .int (v1_7 + (1 : Int32))), (0, .ref a_t)]) hx hb dX4_readText_20 hl (k := 1) rfl rfl (by decide) rfl (fun ls hl => ?_)
        refine lv_goto (tgt := 7) hx hb dX4_readText_23 (by decide) ?_
        exact ih_7 (v1_7 + (1 : Int32)) (upd s_t_read_7 v1_7.toNatClampNeg (0 : Int32)) hM ls _ _ hP hD hS (lv_sub hl [1, 0] rfl)
  exact w_7 FU (0 : Int32) s_t_read hM ls _ _ hP hD hS (lv_sub hl [1, 0] rfl)
noncomputable def mX4_fault (s_t : Int32 × Int32 × Int32 × Int32 × Int32 × Int32 × Int32 × Int32 × Int32 × Int64) (s_t_text : Nat → Int32) (s_t_read : Nat → Int32) (s_t_readPaper : Nat → Int32) : Option (Int32 × (Int32 × Int32 × Int32 × Int32 × Int32 × Int32 × Int32 × Int32 × Int32 × Int64) × (Nat → Int32) × (Nat → Int32)) := (mX4_readText s_t s_t_text s_t_read s_t_readPaper).bind (fun x1 => some (x1.1, x1.2.1, x1.2.2.1, x1.2.2.2))
set_option maxHeartbeats 4000000 in
set_option maxRecDepth 100000 in
theorem okX4_fault {l : Launch} {dC : Nat → ClassId} {dI : Nat → Nat → Nat} {cI cC cZ : ClassId} (a_t a_t_text a_t_paper a_t_now a_t_trial a_t_diary a_t_kept a_t_isKept a_t_seenAt a_t_worth a_t_readPaper a_t_read : Nat) (s_t : Int32 × Int32 × Int32 × Int32 × Int32 × Int32 × Int32 × Int32 × Int32 × Int64) (s_t_text : Nat → Int32) (s_t_read : Nat → Int32) (s_t_readPaper : Nat → Int32) (res : Int32 × (Int32 × Int32 × Int32 × Int32 × Int32 × Int32 × Int32 × Int32 × Int32 × Int64) × (Nat → Int32) × (Nat → Int32)) (hM : mX4_fault s_t s_t_text s_t_read s_t_readPaper = some res) : Mu l yX4_fault cX4_fault 1 (some .int) 6 137 (dC, dI) cI cC cZ [(a_t, .inr (4, [.ref a_t_text, .int s_t.1, .int s_t.2.1, .ref a_t_paper, .ref a_t_now, .ref a_t_trial, .ref a_t_diary, .int s_t.2.2.1, .int s_t.2.2.2.1, .ref a_t_kept, .ref a_t_isKept, .ref a_t_seenAt, .int s_t.2.2.2.2.1, .long s_t.2.2.2.2.2.2.2.2.2, .ref a_t_worth, .int s_t.2.2.2.2.2.1, .int s_t.2.2.2.2.2.2.1, .ref a_t_readPaper, .ref a_t_read, .int s_t.2.2.2.2.2.2.2.1, .int s_t.2.2.2.2.2.2.2.2.1])), (a_t_text, .inl (cI, 99, .inl s_t_text)), (a_t_read, .inl (cI, 66, .inl s_t_read)), (a_t_readPaper, .inl (cI, 24, .inl s_t_readPaper))] [(a_t, .inr (4, [.ref a_t_text, .int res.2.1.1, .int res.2.1.2.1, .ref a_t_paper, .ref a_t_now, .ref a_t_trial, .ref a_t_diary, .int res.2.1.2.2.1, .int res.2.1.2.2.2.1, .ref a_t_kept, .ref a_t_isKept, .ref a_t_seenAt, .int res.2.1.2.2.2.2.1, .long res.2.1.2.2.2.2.2.2.2.2.2, .ref a_t_worth, .int res.2.1.2.2.2.2.2.1, .int res.2.1.2.2.2.2.2.2.1, .ref a_t_readPaper, .ref a_t_read, .int res.2.1.2.2.2.2.2.2.2.1, .int res.2.1.2.2.2.2.2.2.2.2.1])), (a_t_text, .inl (cI, 99, .inl s_t_text)), (a_t_read, .inl (cI, 66, .inl res.2.2.1)), (a_t_readPaper, .inl (cI, 24, .inl res.2.2.2))] [.ref a_t] (some (.int res.1)) := by
  refine Mu.ofI (by decide) (Nat.le_of_ble_eq_true rfl) [(0, .ref a_t)] rfl ?_
  intro p e s m args below meth c ls Q A hx hb hml hown hU hE hP hD hS hA rt hl
  have hown : s.vm.findClass RX4 = some m.cls := hown
  unfold mX4_fault at hM
  refine lv_aload_n hx hb dX4_fault_0 rfl (lv_at hl 0 rfl) ?_
  obtain ⟨x1, h1, hM⟩ := bind_e hM
  refine muV (As := []) (rest := []) (st2 := [.int x1.1]) (nw := [(a_t, .inr (4, [.ref a_t_text, .int x1.2.1.1, .int x1.2.1.2.1, .ref a_t_paper, .ref a_t_now, .ref a_t_trial, .ref a_t_diary, .int x1.2.1.2.2.1, .int x1.2.1.2.2.2.1, .ref a_t_kept, .ref a_t_isKept, .ref a_t_seenAt, .int x1.2.1.2.2.2.2.1, .long x1.2.1.2.2.2.2.2.2.2.2.2, .ref a_t_worth, .int x1.2.1.2.2.2.2.2.1, .int x1.2.1.2.2.2.2.2.2.1, .ref a_t_readPaper, .ref a_t_read, .int x1.2.1.2.2.2.2.2.2.2.1, .int x1.2.1.2.2.2.2.2.2.2.2.1])), (a_t_text, .inl (cI, 99, .inl s_t_text)), (a_t_read, .inl (cI, 66, .inl x1.2.2.1)), (a_t_readPaper, .inl (cI, 24, .inl x1.2.2.2))]) ⟨hx, hb, hml, hown, hU⟩ hE (okX4_readText a_t a_t_text a_t_paper a_t_now a_t_trial a_t_diary a_t_kept a_t_isKept a_t_seenAt a_t_worth a_t_readPaper a_t_read s_t s_t_text s_t_read s_t_readPaper x1 h1) lk_X4_109 hP hD hS hA [0, 1, 2, 3] rfl rfl rfl rfl rfl rfl hl.1 rfl (Nat.le_of_ble_eq_true rfl) ⟨Nat.le_of_ble_eq_true rfl, Nat.le_of_ble_eq_true rfl⟩ dX4_fault_1 ⟨Nat.le_refl _, Nat.le_refl _⟩ rfl rfl rfl rfl (fun H locs hP hD hS => ?_)
  cases hM
  exact rt _ _ _ _ _ hP hS dX4_fault_4 rfl
noncomputable def mX4_meet (s_q0 : Nat → Int32) (v1 : Int32) (v2 : Int32) : Option (Bool) := rd s_q0 66 ((42 : Int32) + ((3 : Int32) * v1)) (fun x17 => rd s_q0 66 (((42 : Int32) + ((3 : Int32) * v1)) + (1 : Int32)) (fun x22 => rd s_q0 66 ((42 : Int32) + ((3 : Int32) * v2)) (fun x26 => rd s_q0 66 (((42 : Int32) + ((3 : Int32) * v2)) + (1 : Int32)) (fun x32 => (mX4_isWithin x17 x22 x26 x32).bind (fun x33 => (if x33 = true then some (true) else rd s_q0 66 ((42 : Int32) + ((3 : Int32) * v2)) (fun x42 => rd s_q0 66 (((42 : Int32) + ((3 : Int32) * v2)) + (1 : Int32)) (fun x48 => rd s_q0 66 ((42 : Int32) + ((3 : Int32) * v1)) (fun x51 => rd s_q0 66 (((42 : Int32) + ((3 : Int32) * v1)) + (1 : Int32)) (fun x56 => (mX4_isWithin x42 x48 x51 x56).bind (fun x57 => (if x57 = true then some (true) else some (false)))))))))))))
set_option maxHeartbeats 4000000 in
set_option maxRecDepth 100000 in
theorem okX4_meet {l : Launch} {dC : Nat → ClassId} {dI : Nat → Nat → Nat} {cI cC cZ : ClassId} (a_q0 : Nat) (s_q0 : Nat → Int32) (v1 : Int32) (v2 : Int32) (res : Bool) (hM : mX4_meet s_q0 v1 v2 = some res) : Rd l yX4_meet cX4_meet 5 (some .boolean) 2 43 (dC, dI) cI cC cZ [(a_q0, .inl (cI, 66, .inl s_q0))] [.ref a_q0, .int v1, .int v2] (some (.int (b2i res))) := by
  refine Rd.ofZ (by decide) (Nat.le_of_ble_eq_true rfl) [(0, .ref a_q0), (1, .int v1), (2, .int v2)] rfl ?_
  intro p e s m args below meth c ls Q hx hb hml hown hU hE hP rt hl
  have hown : s.vm.findClass RX4 = some m.cls := hown
  unfold mX4_meet at hM
  refine lv_bipush (v := (42 : Int32)) hx hb dX4_meet_0 (by decide) ?_
  refine lv_iconst (v := (3 : Int32)) hx hb dX4_meet_2 (by decide) ?_
  refine lv_iload_n hx hb dX4_meet_3 rfl (lv_at hl 1 rfl) ?_
  refine lv_imul hx hb dX4_meet_4 ?_
  refine lv_iadd hx hb dX4_meet_5 ?_
  refine lv_istore_n (lv' := [(3, .int ((42 : Int32) + ((3 : Int32) * v1))), (0, .ref a_q0), (1, .int v1), (2, .int v2)]) hx hb dX4_meet_6 rfl hl (by decide) rfl (fun ls hl => ?_)
  refine lv_bipush (v := (42 : Int32)) hx hb dX4_meet_7 (by decide) ?_
  refine lv_iconst (v := (3 : Int32)) hx hb dX4_meet_9 (by decide) ?_
  refine lv_iload_n hx hb dX4_meet_10 rfl (lv_at hl 3 rfl) ?_
  refine lv_imul hx hb dX4_meet_11 ?_
  refine lv_iadd hx hb dX4_meet_12 ?_
  refine lv_istore (lv' := [(4, .int ((42 : Int32) + ((3 : Int32) * v2))), (3, .int ((42 : Int32) + ((3 : Int32) * v1))), (0, .ref a_q0), (1, .int v1), (2, .int v2)]) hx hb dX4_meet_13 hl (by decide) rfl (fun ls hl => ?_)
  refine lv_aload_n hx hb dX4_meet_15 rfl (lv_at hl 2 rfl) ?_
  refine lv_iload_n hx hb dX4_meet_16 rfl (lv_at hl 1 rfl) ?_
  obtain ⟨g17, hM⟩ := rd_e hM
  refine va_iald hx hb hE.1 hP 0 0 rfl rfl g17 dX4_meet_17 ?_
  refine lv_aload_n hx hb dX4_meet_18 rfl (lv_at hl 2 rfl) ?_
  refine lv_iload_n hx hb dX4_meet_19 rfl (lv_at hl 1 rfl) ?_
  refine lv_iconst (v := (1 : Int32)) hx hb dX4_meet_20 (by decide) ?_
  refine lv_iadd hx hb dX4_meet_21 ?_
  obtain ⟨g22, hM⟩ := rd_e hM
  refine va_iald hx hb hE.1 hP 0 0 rfl rfl g22 dX4_meet_22 ?_
  refine lv_aload_n hx hb dX4_meet_23 rfl (lv_at hl 2 rfl) ?_
  refine lv_iload hx hb dX4_meet_24 (lv_at hl 0 rfl) ?_
  obtain ⟨g26, hM⟩ := rd_e hM
  refine va_iald hx hb hE.1 hP 0 0 rfl rfl g26 dX4_meet_26 ?_
  refine lv_aload_n hx hb dX4_meet_27 rfl (lv_at hl 2 rfl) ?_
  refine lv_iload hx hb dX4_meet_28 (lv_at hl 0 rfl) ?_
  refine lv_iconst (v := (1 : Int32)) hx hb dX4_meet_30 (by decide) ?_
  refine lv_iadd hx hb dX4_meet_31 ?_
  obtain ⟨g32, hM⟩ := rd_e hM
  refine va_iald hx hb hE.1 hP 0 0 rfl rfl g32 dX4_meet_32 ?_
  obtain ⟨x33, h33, hM⟩ := bind_e hM
  refine rdS (As := [.int (s_q0 ((42 : Int32) + ((3 : Int32) * v1)).toNatClampNeg), .int (s_q0 (((42 : Int32) + ((3 : Int32) * v1)) + (1 : Int32)).toNatClampNeg), .int (s_q0 ((42 : Int32) + ((3 : Int32) * v2)).toNatClampNeg), .int (s_q0 (((42 : Int32) + ((3 : Int32) * v2)) + (1 : Int32)).toNatClampNeg)]) (rest := []) (st2 := [.int (b2i x33)]) ⟨hx, hb, hml, hown, hU⟩ hE (okX4_isWithin (s_q0 ((42 : Int32) + ((3 : Int32) * v1)).toNatClampNeg) (s_q0 (((42 : Int32) + ((3 : Int32) * v1)) + (1 : Int32)).toNatClampNeg) (s_q0 ((42 : Int32) + ((3 : Int32) * v2)).toNatClampNeg) (s_q0 (((42 : Int32) + ((3 : Int32) * v2)) + (1 : Int32)).toNatClampNeg) x33 h33) lk_X4_123 (hP.sub [] rfl) rfl hl.1 rfl (Nat.le_of_ble_eq_true rfl) ⟨Nat.le_of_ble_eq_true rfl, Nat.le_of_ble_eq_true rfl⟩ dX4_meet_33 ⟨Nat.le_refl _, Nat.le_refl _⟩ rfl ?_
  refine lv_if_ne (tgt := 63) hx hb dX4_meet_36 (by decide) (fun c36 => ?_) (fun c36 => ?_)
  · have hM := ite_t (b2i_ne0 c36) hM
    refine lv_iconst (v := (1 : Int32)) hx hb dX4_meet_63 (by decide) ?_
    refine lv_goto (tgt := 68) hx hb dX4_meet_64 (by decide) ?_
    cases hM
    exact rt true _ _ dX4_meet_68 rfl
  · have hM := ite_f (b2i_eq0 c36) hM
    refine lv_aload_n hx hb dX4_meet_39 rfl (lv_at hl 2 rfl) ?_
    refine lv_iload hx hb dX4_meet_40 (lv_at hl 0 rfl) ?_
    obtain ⟨g42, hM⟩ := rd_e hM
    refine va_iald hx hb hE.1 hP 0 0 rfl rfl g42 dX4_meet_42 ?_
    refine lv_aload_n hx hb dX4_meet_43 rfl (lv_at hl 2 rfl) ?_
    refine lv_iload hx hb dX4_meet_44 (lv_at hl 0 rfl) ?_
    refine lv_iconst (v := (1 : Int32)) hx hb dX4_meet_46 (by decide) ?_
    refine lv_iadd hx hb dX4_meet_47 ?_
    obtain ⟨g48, hM⟩ := rd_e hM
    refine va_iald hx hb hE.1 hP 0 0 rfl rfl g48 dX4_meet_48 ?_
    refine lv_aload_n hx hb dX4_meet_49 rfl (lv_at hl 2 rfl) ?_
    refine lv_iload_n hx hb dX4_meet_50 rfl (lv_at hl 1 rfl) ?_
    obtain ⟨g51, hM⟩ := rd_e hM
    refine va_iald hx hb hE.1 hP 0 0 rfl rfl g51 dX4_meet_51 ?_
    refine lv_aload_n hx hb dX4_meet_52 rfl (lv_at hl 2 rfl) ?_
    refine lv_iload_n hx hb dX4_meet_53 rfl (lv_at hl 1 rfl) ?_
    refine lv_iconst (v := (1 : Int32)) hx hb dX4_meet_54 (by decide) ?_
    refine lv_iadd hx hb dX4_meet_55 ?_
    obtain ⟨g56, hM⟩ := rd_e hM
    refine va_iald hx hb hE.1 hP 0 0 rfl rfl g56 dX4_meet_56 ?_
    obtain ⟨x57, h57, hM⟩ := bind_e hM
    refine rdS (As := [.int (s_q0 ((42 : Int32) + ((3 : Int32) * v2)).toNatClampNeg), .int (s_q0 (((42 : Int32) + ((3 : Int32) * v2)) + (1 : Int32)).toNatClampNeg), .int (s_q0 ((42 : Int32) + ((3 : Int32) * v1)).toNatClampNeg), .int (s_q0 (((42 : Int32) + ((3 : Int32) * v1)) + (1 : Int32)).toNatClampNeg)]) (rest := []) (st2 := [.int (b2i x57)]) ⟨hx, hb, hml, hown, hU⟩ hE (okX4_isWithin (s_q0 ((42 : Int32) + ((3 : Int32) * v2)).toNatClampNeg) (s_q0 (((42 : Int32) + ((3 : Int32) * v2)) + (1 : Int32)).toNatClampNeg) (s_q0 ((42 : Int32) + ((3 : Int32) * v1)).toNatClampNeg) (s_q0 (((42 : Int32) + ((3 : Int32) * v1)) + (1 : Int32)).toNatClampNeg) x57 h57) lk_X4_123 (hP.sub [] rfl) rfl hl.1 rfl (Nat.le_of_ble_eq_true rfl) ⟨Nat.le_of_ble_eq_true rfl, Nat.le_of_ble_eq_true rfl⟩ dX4_meet_57 ⟨Nat.le_refl _, Nat.le_refl _⟩ rfl ?_
    refine lv_if_eq (tgt := 67) hx hb dX4_meet_60 (by decide) (fun c60 => ?_) (fun c60 => ?_)
    · have hM := ite_f (b2i_eq0 c60) hM
      refine lv_iconst (v := (0 : Int32)) hx hb dX4_meet_67 (by decide) ?_
      cases hM
      exact rt false _ _ dX4_meet_68 rfl
    · have hM := ite_t (b2i_ne0 c60) hM
      refine lv_iconst (v := (1 : Int32)) hx hb dX4_meet_63 (by decide) ?_
      refine lv_goto (tgt := 68) hx hb dX4_meet_64 (by decide) ?_
      cases hM
      exact rt true _ _ dX4_meet_68 rfl
noncomputable def mX4_isIn_b55 (s_q1 : Nat → Int32) (s_t_paper : Nat → Int32) (v2 : Int32) (v4 : Int32) : Nat → Bool → Int32 → Option (Bool)
  | 0, _, _ => none
  | n + 1, v5, v6 => rd s_q1 66 (41 : Int32) (fun x60 => (if x60 ≤ v6 then some (v5) else (if v5 = true then (if v4 = (2 : Int32) then mX4_isIn_b55 s_q1 s_t_paper v2 v4 n true (v6 + (1 : Int32)) else (mX4_routeState s_q1 s_t_paper v6).bind (fun x79 => (if x79 = (2 : Int32) then (mX4_meet s_q1 v2 v6).bind (fun x90 => (if x90 = true then mX4_isIn_b55 s_q1 s_t_paper v2 v4 n false (v6 + (1 : Int32)) else mX4_isIn_b55 s_q1 s_t_paper v2 v4 n true (v6 + (1 : Int32)))) else mX4_isIn_b55 s_q1 s_t_paper v2 v4 n true (v6 + (1 : Int32))))) else mX4_isIn_b55 s_q1 s_t_paper v2 v4 n false (v6 + (1 : Int32)))))
noncomputable def mX4_isIn (s_q1 : Nat → Int32) (s_t_paper : Nat → Int32) (v2 : Int32) (v3 : Int32) : Option (Bool) := (mX4_routeState s_q1 s_t_paper v2).bind (fun x3 => (if (3 : Int32) ≤ v3 then (if x3 ≤ 0 then mX4_isIn_b55 s_q1 s_t_paper v2 x3 FU false (0 : Int32) else mX4_isIn_b55 s_q1 s_t_paper v2 x3 FU true (0 : Int32)) else (if v3 = 0 then some (true) else (if x3 = (2 : Int32) then some (true) else (if v3 = (1 : Int32) then (if x3 = (1 : Int32) then some (true) else some (false)) else some (false))))))
set_option maxHeartbeats 4000000 in
set_option maxRecDepth 100000 in
theorem okX4_isIn {l : Launch} {dC : Nat → ClassId} {dI : Nat → Nat → Nat} {cI cC cZ : ClassId} (a_t a_t_text a_t_paper a_t_now a_t_trial a_t_diary a_t_kept a_t_isKept a_t_seenAt a_t_worth a_t_readPaper a_t_read a_q1 : Nat) (s_t : Int32 × Int32 × Int32 × Int32 × Int32 × Int32 × Int32 × Int32 × Int32 × Int64) (s_q1 : Nat → Int32) (s_t_paper : Nat → Int32) (v2 : Int32) (v3 : Int32) (res : Bool) (hM : mX4_isIn s_q1 s_t_paper v2 v3 = some res) : Rd l yX4_isIn cX4_isIn 7 (some .boolean) 7 168 (dC, dI) cI cC cZ [(a_t, .inr (4, [.ref a_t_text, .int s_t.1, .int s_t.2.1, .ref a_t_paper, .ref a_t_now, .ref a_t_trial, .ref a_t_diary, .int s_t.2.2.1, .int s_t.2.2.2.1, .ref a_t_kept, .ref a_t_isKept, .ref a_t_seenAt, .int s_t.2.2.2.2.1, .long s_t.2.2.2.2.2.2.2.2.2, .ref a_t_worth, .int s_t.2.2.2.2.2.1, .int s_t.2.2.2.2.2.2.1, .ref a_t_readPaper, .ref a_t_read, .int s_t.2.2.2.2.2.2.2.1, .int s_t.2.2.2.2.2.2.2.2.1])), (a_q1, .inl (cI, 66, .inl s_q1)), (a_t_paper, .inl (cI, 24, .inl s_t_paper))] [.ref a_t, .ref a_q1, .int v2, .int v3] (some (.int (b2i res))) := by
  refine Rd.ofZ (by decide) (Nat.le_of_ble_eq_true rfl) [(0, .ref a_t), (1, .ref a_q1), (2, .int v2), (3, .int v3)] rfl ?_
  intro p e s m args below meth c ls Q hx hb hml hown hU hE hP rt hl
  have hown : s.vm.findClass RX4 = some m.cls := hown
  unfold mX4_isIn at hM
  refine lv_aload_n hx hb dX4_isIn_0 rfl (lv_at hl 0 rfl) ?_
  refine lv_aload_n hx hb dX4_isIn_1 rfl (lv_at hl 1 rfl) ?_
  refine lv_iload_n hx hb dX4_isIn_2 rfl (lv_at hl 2 rfl) ?_
  obtain ⟨x3, h3, hM⟩ := bind_e hM
  refine rdV (As := [.ref a_q1, .int v2]) (rest := []) (st2 := [.int x3]) ⟨hx, hb, hml, hown, hU⟩ hE (okX4_routeState a_t a_t_text a_t_paper a_t_now a_t_trial a_t_diary a_t_kept a_t_isKept a_t_seenAt a_t_worth a_t_readPaper a_t_read a_q1 s_t s_q1 s_t_paper v2 x3 h3) lk_X4_142 (hP.sub [0, 1, 2] rfl) rfl rfl rfl hl.1 rfl (Nat.le_of_ble_eq_true rfl) ⟨Nat.le_of_ble_eq_true rfl, Nat.le_of_ble_eq_true rfl⟩ dX4_isIn_3 ⟨Nat.le_refl _, Nat.le_refl _⟩ rfl ?_
  refine lv_istore (lv' := [(4, .int x3), (0, .ref a_t), (1, .ref a_q1), (2, .int v2), (3, .int v3)]) hx hb dX4_isIn_6 hl (by decide) rfl (fun ls hl => ?_)
  refine lv_iload_n hx hb dX4_isIn_8 rfl (lv_at hl 4 rfl) ?_
  refine lv_iconst (v := (3 : Int32)) hx hb dX4_isIn_9 (by decide) ?_
  refine lv_icmp_ge (tgt := 40) hx hb dX4_isIn_10 (by decide) (fun c10 => ?_) (fun c10 => ?_)
  · have hM := ite_t c10 hM
    refine lv_iload hx hb dX4_isIn_40 (lv_at hl 0 rfl) ?_
    refine lv_if_le (tgt := 49) hx hb dX4_isIn_42 (by decide) (fun c42 => ?_) (fun c42 => ?_)
    · have hM := ite_t c42 hM
      refine lv_iconst (v := (0 : Int32)) hx hb dX4_isIn_49 (by decide) ?_
      refine lv_istore (lv' := [(5, .int (0 : Int32)), (4, .int x3), (0, .ref a_t), (1, .ref a_q1), (2, .int v2), (3, .int v3)]) hx hb dX4_isIn_50 hl (by decide) rfl (fun ls hl => ?_)
      refine lv_iconst (v := (0 : Int32)) hx hb dX4_isIn_52 (by decide) ?_
      refine lv_istore (lv' := [(6, .int (0 : Int32)), (5, .int (0 : Int32)), (4, .int x3), (0, .ref a_t), (1, .ref a_q1), (2, .int v2), (3, .int v3)]) hx hb dX4_isIn_53 hl (by decide) rfl (fun ls hl => ?_)
      have w_55 : ∀ (n : Nat) (v5_55 : Bool) (v6_55 : Int32), mX4_isIn_b55 s_q1 s_t_paper v2 x3 n v5_55 v6_55 = some res → ∀ (ls : Array Slot), lv_has ls 7 [(0, .ref a_t), (1, .ref a_q1), (2, .int v2), (4, .int x3), (5, .int (b2i v5_55)), (6, .int v6_55)] → W p l e (RM 7 168) s m args below meth c s.heap [] 0 0 Q (F0 m 55 ls []) := by
        intro n
        induction n with
        | zero =>
          intro v5_55 v6_55 hM
          rw [mX4_isIn_b55] at hM
          cases hM
        | succ n_55 ih_55 =>
          intro v5_55 v6_55 hM ls hl
          rw [mX4_isIn_b55] at hM
          refine lv_iload hx hb dX4_isIn_55 (lv_at hl 5 rfl) ?_
          refine lv_aload_n hx hb dX4_isIn_57 rfl (lv_at hl 1 rfl) ?_
          refine lv_bipush (v := (41 : Int32)) hx hb dX4_isIn_58 (by decide) ?_
          obtain ⟨g60, hM⟩ := rd_e hM
          refine va_iald hx hb hE.1 hP 1 0 rfl rfl g60 dX4_isIn_60 ?_
          refine lv_icmp_ge (tgt := 109) hx hb dX4_isIn_61 (by decide) (fun c61 => ?_) (fun c61 => ?_)
          · have hM := ite_t c61 hM
            refine lv_iload hx hb dX4_isIn_109 (lv_at hl 4 rfl) ?_
            cases hM
            exact rt _ _ _ dX4_isIn_111 rfl
          · have hM := ite_f c61 hM
            refine lv_iload hx hb dX4_isIn_64 (lv_at hl 4 rfl) ?_
            refine lv_if_eq (tgt := 100) hx hb dX4_isIn_66 (by decide) (fun c66 => ?_) (fun c66 => ?_)
            · have hM := ite_f (b2i_eq0 c66) hM
              refine lv_iconst (v := (0 : Int32)) hx hb dX4_isIn_100 (by decide) ?_
              refine lv_istore (lv' := [(5, .int (0 : Int32)), (0, .ref a_t), (1, .ref a_q1), (2, .int v2), (4, .int x3), (6, .int v6_55)]) hx hb dX4_isIn_101 hl (by decide) rfl (fun ls hl => ?_)
              refine lv_iinc (v := (v6_55 + (1 : Int32))) (lv' := [(6, .int (v6_55 + (1 : Int32))), (5, .int (0 : Int32)), (0, .ref a_t), (1, .ref a_q1), (2, .int v2), (4, .int x3)]) hx hb dX4_isIn_103 hl (k := 5) rfl rfl (by decide) rfl (fun ls hl => ?_)
              refine lv_goto (tgt := 55) hx hb dX4_isIn_106 (by decide) ?_
              exact ih_55 false (v6_55 + (1 : Int32)) hM ls (lv_sub hl [2, 3, 4, 5, 1, 0] rfl)
            · have hM := ite_t (b2i_ne0 c66) hM
              refine lv_iload hx hb dX4_isIn_69 (lv_at hl 3 rfl) ?_
              refine lv_iconst (v := (2 : Int32)) hx hb dX4_isIn_71 (by decide) ?_
              refine lv_icmp_eq (tgt := 96) hx hb dX4_isIn_72 (by decide) (fun c72 => ?_) (fun c72 => ?_)
              · have hM := ite_t c72 hM
                refine lv_iconst (v := (1 : Int32)) hx hb dX4_isIn_96 (by decide) ?_
                refine lv_goto (tgt := 101) hx hb dX4_isIn_97 (by decide) ?_
                refine lv_istore (lv' := [(5, .int (1 : Int32)), (0, .ref a_t), (1, .ref a_q1), (2, .int v2), (4, .int x3), (6, .int v6_55)]) hx hb dX4_isIn_101 hl (by decide) rfl (fun ls hl => ?_)
                refine lv_iinc (v := (v6_55 + (1 : Int32))) (lv' := [(6, .int (v6_55 + (1 : Int32))), (5, .int (1 : Int32)), (0, .ref a_t), (1, .ref a_q1), (2, .int v2), (4, .int x3)]) hx hb dX4_isIn_103 hl (k := 5) rfl rfl (by decide) rfl (fun ls hl => ?_)
                refine lv_goto (tgt := 55) hx hb dX4_isIn_106 (by decide) ?_
                exact ih_55 true (v6_55 + (1 : Int32)) hM ls (lv_sub hl [2, 3, 4, 5, 1, 0] rfl)
              · have hM := ite_f c72 hM
                refine lv_aload_n hx hb dX4_isIn_75 rfl (lv_at hl 0 rfl) ?_
                refine lv_aload_n hx hb dX4_isIn_76 rfl (lv_at hl 1 rfl) ?_
                refine lv_iload hx hb dX4_isIn_77 (lv_at hl 5 rfl) ?_
                obtain ⟨x79, h79, hM⟩ := bind_e hM
                refine rdV (As := [.ref a_q1, .int v6_55]) (rest := []) (st2 := [.int x79]) ⟨hx, hb, hml, hown, hU⟩ hE (okX4_routeState a_t a_t_text a_t_paper a_t_now a_t_trial a_t_diary a_t_kept a_t_isKept a_t_seenAt a_t_worth a_t_readPaper a_t_read a_q1 s_t s_q1 s_t_paper v6_55 x79 h79) lk_X4_142 (hP.sub [0, 1, 2] rfl) rfl rfl rfl hl.1 rfl (Nat.le_of_ble_eq_true rfl) ⟨Nat.le_of_ble_eq_true rfl, Nat.le_of_ble_eq_true rfl⟩ dX4_isIn_79 ⟨Nat.le_refl _, Nat.le_refl _⟩ rfl ?_
                refine lv_iconst (v := (2 : Int32)) hx hb dX4_isIn_82 (by decide) ?_
                refine lv_icmp_ne (tgt := 96) hx hb dX4_isIn_83 (by decide) (fun c83 => ?_) (fun c83 => ?_)
                · have hM := ite_f c83 hM
                  refine lv_iconst (v := (1 : Int32)) hx hb dX4_isIn_96 (by decide) ?_
                  refine lv_goto (tgt := 101) hx hb dX4_isIn_97 (by decide) ?_
                  refine lv_istore (lv' := [(5, .int (1 : Int32)), (0, .ref a_t), (1, .ref a_q1), (2, .int v2), (4, .int x3), (6, .int v6_55)]) hx hb dX4_isIn_101 hl (by decide) rfl (fun ls hl => ?_)
                  refine lv_iinc (v := (v6_55 + (1 : Int32))) (lv' := [(6, .int (v6_55 + (1 : Int32))), (5, .int (1 : Int32)), (0, .ref a_t), (1, .ref a_q1), (2, .int v2), (4, .int x3)]) hx hb dX4_isIn_103 hl (k := 5) rfl rfl (by decide) rfl (fun ls hl => ?_)
                  refine lv_goto (tgt := 55) hx hb dX4_isIn_106 (by decide) ?_
                  exact ih_55 true (v6_55 + (1 : Int32)) hM ls (lv_sub hl [2, 3, 4, 5, 1, 0] rfl)
                · have hM := ite_t c83 hM
                  refine lv_aload_n hx hb dX4_isIn_86 rfl (lv_at hl 1 rfl) ?_
                  refine lv_iload_n hx hb dX4_isIn_87 rfl (lv_at hl 2 rfl) ?_
                  refine lv_iload hx hb dX4_isIn_88 (lv_at hl 5 rfl) ?_
                  obtain ⟨x90, h90, hM⟩ := bind_e hM
                  refine rdS (As := [.ref a_q1, .int v2, .int v6_55]) (rest := []) (st2 := [.int (b2i x90)]) ⟨hx, hb, hml, hown, hU⟩ hE (okX4_meet a_q1 s_q1 v2 v6_55 x90 h90) lk_X4_146 (hP.sub [1] rfl) rfl hl.1 rfl (Nat.le_of_ble_eq_true rfl) ⟨Nat.le_of_ble_eq_true rfl, Nat.le_of_ble_eq_true rfl⟩ dX4_isIn_90 ⟨Nat.le_refl _, Nat.le_refl _⟩ rfl ?_
                  refine lv_if_ne (tgt := 100) hx hb dX4_isIn_93 (by decide) (fun c93 => ?_) (fun c93 => ?_)
                  · have hM := ite_t (b2i_ne0 c93) hM
                    refine lv_iconst (v := (0 : Int32)) hx hb dX4_isIn_100 (by decide) ?_
                    refine lv_istore (lv' := [(5, .int (0 : Int32)), (0, .ref a_t), (1, .ref a_q1), (2, .int v2), (4, .int x3), (6, .int v6_55)]) hx hb dX4_isIn_101 hl (by decide) rfl (fun ls hl => ?_)
                    refine lv_iinc (v := (v6_55 + (1 : Int32))) (lv' := [(6, .int (v6_55 + (1 : Int32))), (5, .int (0 : Int32)), (0, .ref a_t), (1, .ref a_q1), (2, .int v2), (4, .int x3)]) hx hb dX4_isIn_103 hl (k := 5) rfl rfl (by decide) rfl (fun ls hl => ?_)
                    refine lv_goto (tgt := 55) hx hb dX4_isIn_106 (by decide) ?_
                    exact ih_55 false (v6_55 + (1 : Int32)) hM ls (lv_sub hl [2, 3, 4, 5, 1, 0] rfl)
                  · have hM := ite_f (b2i_eq0 c93) hM
                    refine lv_iconst (v := (1 : Int32)) hx hb dX4_isIn_96 (by decide) ?_
                    refine lv_goto (tgt := 101) hx hb dX4_isIn_97 (by decide) ?_
                    refine lv_istore (lv' := [(5, .int (1 : Int32)), (0, .ref a_t), (1, .ref a_q1), (2, .int v2), (4, .int x3), (6, .int v6_55)]) hx hb dX4_isIn_101 hl (by decide) rfl (fun ls hl => ?_)
                    refine lv_iinc (v := (v6_55 + (1 : Int32))) (lv' := [(6, .int (v6_55 + (1 : Int32))), (5, .int (1 : Int32)), (0, .ref a_t), (1, .ref a_q1), (2, .int v2), (4, .int x3)]) hx hb dX4_isIn_103 hl (k := 5) rfl rfl (by decide) rfl (fun ls hl => ?_)
                    refine lv_goto (tgt := 55) hx hb dX4_isIn_106 (by decide) ?_
                    exact ih_55 true (v6_55 + (1 : Int32)) hM ls (lv_sub hl [2, 3, 4, 5, 1, 0] rfl)
      exact w_55 FU false (0 : Int32) hM ls (lv_sub hl [3, 4, 5, 2, 1, 0] rfl)
    · have hM := ite_f c42 hM
      refine lv_iconst (v := (1 : Int32)) hx hb dX4_isIn_45 (by decide) ?_
      refine lv_goto (tgt := 50) hx hb dX4_isIn_46 (by decide) ?_
      refine lv_istore (lv' := [(5, .int (1 : Int32)), (4, .int x3), (0, .ref a_t), (1, .ref a_q1), (2, .int v2), (3, .int v3)]) hx hb dX4_isIn_50 hl (by decide) rfl (fun ls hl => ?_)
      refine lv_iconst (v := (0 : Int32)) hx hb dX4_isIn_52 (by decide) ?_
      refine lv_istore (lv' := [(6, .int (0 : Int32)), (5, .int (1 : Int32)), (4, .int x3), (0, .ref a_t), (1, .ref a_q1), (2, .int v2), (3, .int v3)]) hx hb dX4_isIn_53 hl (by decide) rfl (fun ls hl => ?_)
      have w_55 : ∀ (n : Nat) (v5_55 : Bool) (v6_55 : Int32), mX4_isIn_b55 s_q1 s_t_paper v2 x3 n v5_55 v6_55 = some res → ∀ (ls : Array Slot), lv_has ls 7 [(0, .ref a_t), (1, .ref a_q1), (2, .int v2), (4, .int x3), (5, .int (b2i v5_55)), (6, .int v6_55)] → W p l e (RM 7 168) s m args below meth c s.heap [] 0 0 Q (F0 m 55 ls []) := by
        intro n
        induction n with
        | zero =>
          intro v5_55 v6_55 hM
          rw [mX4_isIn_b55] at hM
          cases hM
        | succ n_55 ih_55 =>
          intro v5_55 v6_55 hM ls hl
          rw [mX4_isIn_b55] at hM
          refine lv_iload hx hb dX4_isIn_55 (lv_at hl 5 rfl) ?_
          refine lv_aload_n hx hb dX4_isIn_57 rfl (lv_at hl 1 rfl) ?_
          refine lv_bipush (v := (41 : Int32)) hx hb dX4_isIn_58 (by decide) ?_
          obtain ⟨g60, hM⟩ := rd_e hM
          refine va_iald hx hb hE.1 hP 1 0 rfl rfl g60 dX4_isIn_60 ?_
          refine lv_icmp_ge (tgt := 109) hx hb dX4_isIn_61 (by decide) (fun c61 => ?_) (fun c61 => ?_)
          · have hM := ite_t c61 hM
            refine lv_iload hx hb dX4_isIn_109 (lv_at hl 4 rfl) ?_
            cases hM
            exact rt _ _ _ dX4_isIn_111 rfl
          · have hM := ite_f c61 hM
            refine lv_iload hx hb dX4_isIn_64 (lv_at hl 4 rfl) ?_
            refine lv_if_eq (tgt := 100) hx hb dX4_isIn_66 (by decide) (fun c66 => ?_) (fun c66 => ?_)
            · have hM := ite_f (b2i_eq0 c66) hM
              refine lv_iconst (v := (0 : Int32)) hx hb dX4_isIn_100 (by decide) ?_
              refine lv_istore (lv' := [(5, .int (0 : Int32)), (0, .ref a_t), (1, .ref a_q1), (2, .int v2), (4, .int x3), (6, .int v6_55)]) hx hb dX4_isIn_101 hl (by decide) rfl (fun ls hl => ?_)
              refine lv_iinc (v := (v6_55 + (1 : Int32))) (lv' := [(6, .int (v6_55 + (1 : Int32))), (5, .int (0 : Int32)), (0, .ref a_t), (1, .ref a_q1), (2, .int v2), (4, .int x3)]) hx hb dX4_isIn_103 hl (k := 5) rfl rfl (by decide) rfl (fun ls hl => ?_)
              refine lv_goto (tgt := 55) hx hb dX4_isIn_106 (by decide) ?_
              exact ih_55 false (v6_55 + (1 : Int32)) hM ls (lv_sub hl [2, 3, 4, 5, 1, 0] rfl)
            · have hM := ite_t (b2i_ne0 c66) hM
              refine lv_iload hx hb dX4_isIn_69 (lv_at hl 3 rfl) ?_
              refine lv_iconst (v := (2 : Int32)) hx hb dX4_isIn_71 (by decide) ?_
              refine lv_icmp_eq (tgt := 96) hx hb dX4_isIn_72 (by decide) (fun c72 => ?_) (fun c72 => ?_)
              · have hM := ite_t c72 hM
                refine lv_iconst (v := (1 : Int32)) hx hb dX4_isIn_96 (by decide) ?_
                refine lv_goto (tgt := 101) hx hb dX4_isIn_97 (by decide) ?_
                refine lv_istore (lv' := [(5, .int (1 : Int32)), (0, .ref a_t), (1, .ref a_q1), (2, .int v2), (4, .int x3), (6, .int v6_55)]) hx hb dX4_isIn_101 hl (by decide) rfl (fun ls hl => ?_)
                refine lv_iinc (v := (v6_55 + (1 : Int32))) (lv' := [(6, .int (v6_55 + (1 : Int32))), (5, .int (1 : Int32)), (0, .ref a_t), (1, .ref a_q1), (2, .int v2), (4, .int x3)]) hx hb dX4_isIn_103 hl (k := 5) rfl rfl (by decide) rfl (fun ls hl => ?_)
                refine lv_goto (tgt := 55) hx hb dX4_isIn_106 (by decide) ?_
                exact ih_55 true (v6_55 + (1 : Int32)) hM ls (lv_sub hl [2, 3, 4, 5, 1, 0] rfl)
              · have hM := ite_f c72 hM
                refine lv_aload_n hx hb dX4_isIn_75 rfl (lv_at hl 0 rfl) ?_
                refine lv_aload_n hx hb dX4_isIn_76 rfl (lv_at hl 1 rfl) ?_
                refine lv_iload hx hb dX4_isIn_77 (lv_at hl 5 rfl) ?_
                obtain ⟨x79, h79, hM⟩ := bind_e hM
                refine rdV (As := [.ref a_q1, .int v6_55]) (rest := []) (st2 := [.int x79]) ⟨hx, hb, hml, hown, hU⟩ hE (okX4_routeState a_t a_t_text a_t_paper a_t_now a_t_trial a_t_diary a_t_kept a_t_isKept a_t_seenAt a_t_worth a_t_readPaper a_t_read a_q1 s_t s_q1 s_t_paper v6_55 x79 h79) lk_X4_142 (hP.sub [0, 1, 2] rfl) rfl rfl rfl hl.1 rfl (Nat.le_of_ble_eq_true rfl) ⟨Nat.le_of_ble_eq_true rfl, Nat.le_of_ble_eq_true rfl⟩ dX4_isIn_79 ⟨Nat.le_refl _, Nat.le_refl _⟩ rfl ?_
                refine lv_iconst (v := (2 : Int32)) hx hb dX4_isIn_82 (by decide) ?_
                refine lv_icmp_ne (tgt := 96) hx hb dX4_isIn_83 (by decide) (fun c83 => ?_) (fun c83 => ?_)
                · have hM := ite_f c83 hM
                  refine lv_iconst (v := (1 : Int32)) hx hb dX4_isIn_96 (by decide) ?_
                  refine lv_goto (tgt := 101) hx hb dX4_isIn_97 (by decide) ?_
                  refine lv_istore (lv' := [(5, .int (1 : Int32)), (0, .ref a_t), (1, .ref a_q1), (2, .int v2), (4, .int x3), (6, .int v6_55)]) hx hb dX4_isIn_101 hl (by decide) rfl (fun ls hl => ?_)
                  refine lv_iinc (v := (v6_55 + (1 : Int32))) (lv' := [(6, .int (v6_55 + (1 : Int32))), (5, .int (1 : Int32)), (0, .ref a_t), (1, .ref a_q1), (2, .int v2), (4, .int x3)]) hx hb dX4_isIn_103 hl (k := 5) rfl rfl (by decide) rfl (fun ls hl => ?_)
                  refine lv_goto (tgt := 55) hx hb dX4_isIn_106 (by decide) ?_
                  exact ih_55 true (v6_55 + (1 : Int32)) hM ls (lv_sub hl [2, 3, 4, 5, 1, 0] rfl)
                · have hM := ite_t c83 hM
                  refine lv_aload_n hx hb dX4_isIn_86 rfl (lv_at hl 1 rfl) ?_
                  refine lv_iload_n hx hb dX4_isIn_87 rfl (lv_at hl 2 rfl) ?_
                  refine lv_iload hx hb dX4_isIn_88 (lv_at hl 5 rfl) ?_
                  obtain ⟨x90, h90, hM⟩ := bind_e hM
                  refine rdS (As := [.ref a_q1, .int v2, .int v6_55]) (rest := []) (st2 := [.int (b2i x90)]) ⟨hx, hb, hml, hown, hU⟩ hE (okX4_meet a_q1 s_q1 v2 v6_55 x90 h90) lk_X4_146 (hP.sub [1] rfl) rfl hl.1 rfl (Nat.le_of_ble_eq_true rfl) ⟨Nat.le_of_ble_eq_true rfl, Nat.le_of_ble_eq_true rfl⟩ dX4_isIn_90 ⟨Nat.le_refl _, Nat.le_refl _⟩ rfl ?_
                  refine lv_if_ne (tgt := 100) hx hb dX4_isIn_93 (by decide) (fun c93 => ?_) (fun c93 => ?_)
                  · have hM := ite_t (b2i_ne0 c93) hM
                    refine lv_iconst (v := (0 : Int32)) hx hb dX4_isIn_100 (by decide) ?_
                    refine lv_istore (lv' := [(5, .int (0 : Int32)), (0, .ref a_t), (1, .ref a_q1), (2, .int v2), (4, .int x3), (6, .int v6_55)]) hx hb dX4_isIn_101 hl (by decide) rfl (fun ls hl => ?_)
                    refine lv_iinc (v := (v6_55 + (1 : Int32))) (lv' := [(6, .int (v6_55 + (1 : Int32))), (5, .int (0 : Int32)), (0, .ref a_t), (1, .ref a_q1), (2, .int v2), (4, .int x3)]) hx hb dX4_isIn_103 hl (k := 5) rfl rfl (by decide) rfl (fun ls hl => ?_)
                    refine lv_goto (tgt := 55) hx hb dX4_isIn_106 (by decide) ?_
                    exact ih_55 false (v6_55 + (1 : Int32)) hM ls (lv_sub hl [2, 3, 4, 5, 1, 0] rfl)
                  · have hM := ite_f (b2i_eq0 c93) hM
                    refine lv_iconst (v := (1 : Int32)) hx hb dX4_isIn_96 (by decide) ?_
                    refine lv_goto (tgt := 101) hx hb dX4_isIn_97 (by decide) ?_
                    refine lv_istore (lv' := [(5, .int (1 : Int32)), (0, .ref a_t), (1, .ref a_q1), (2, .int v2), (4, .int x3), (6, .int v6_55)]) hx hb dX4_isIn_101 hl (by decide) rfl (fun ls hl => ?_)
                    refine lv_iinc (v := (v6_55 + (1 : Int32))) (lv' := [(6, .int (v6_55 + (1 : Int32))), (5, .int (1 : Int32)), (0, .ref a_t), (1, .ref a_q1), (2, .int v2), (4, .int x3)]) hx hb dX4_isIn_103 hl (k := 5) rfl rfl (by decide) rfl (fun ls hl => ?_)
                    refine lv_goto (tgt := 55) hx hb dX4_isIn_106 (by decide) ?_
                    exact ih_55 true (v6_55 + (1 : Int32)) hM ls (lv_sub hl [2, 3, 4, 5, 1, 0] rfl)
      exact w_55 FU true (0 : Int32) hM ls (lv_sub hl [3, 4, 5, 2, 1, 0] rfl)
  · have hM := ite_f c10 hM
    refine lv_iload_n hx hb dX4_isIn_13 rfl (lv_at hl 4 rfl) ?_
    refine lv_if_eq (tgt := 34) hx hb dX4_isIn_14 (by decide) (fun c14 => ?_) (fun c14 => ?_)
    · have hM := ite_t c14 hM
      refine lv_iconst (v := (1 : Int32)) hx hb dX4_isIn_34 (by decide) ?_
      refine lv_goto (tgt := 39) hx hb dX4_isIn_35 (by decide) ?_
      cases hM
      exact rt true _ _ dX4_isIn_39 rfl
    · have hM := ite_f c14 hM
      refine lv_iload hx hb dX4_isIn_17 (lv_at hl 0 rfl) ?_
      refine lv_iconst (v := (2 : Int32)) hx hb dX4_isIn_19 (by decide) ?_
      refine lv_icmp_eq (tgt := 34) hx hb dX4_isIn_20 (by decide) (fun c20 => ?_) (fun c20 => ?_)
      · have hM := ite_t c20 hM
        refine lv_iconst (v := (1 : Int32)) hx hb dX4_isIn_34 (by decide) ?_
        refine lv_goto (tgt := 39) hx hb dX4_isIn_35 (by decide) ?_
        cases hM
        exact rt true _ _ dX4_isIn_39 rfl
      · have hM := ite_f c20 hM
        refine lv_iload_n hx hb dX4_isIn_23 rfl (lv_at hl 4 rfl) ?_
        refine lv_iconst (v := (1 : Int32)) hx hb dX4_isIn_24 (by decide) ?_
        refine lv_icmp_ne (tgt := 38) hx hb dX4_isIn_25 (by decide) (fun c25 => ?_) (fun c25 => ?_)
        · have hM := ite_f c25 hM
          refine lv_iconst (v := (0 : Int32)) hx hb dX4_isIn_38 (by decide) ?_
          cases hM
          exact rt false _ _ dX4_isIn_39 rfl
        · have hM := ite_t c25 hM
          refine lv_iload hx hb dX4_isIn_28 (lv_at hl 0 rfl) ?_
          refine lv_iconst (v := (1 : Int32)) hx hb dX4_isIn_30 (by decide) ?_
          refine lv_icmp_ne (tgt := 38) hx hb dX4_isIn_31 (by decide) (fun c31 => ?_) (fun c31 => ?_)
          · have hM := ite_f c31 hM
            refine lv_iconst (v := (0 : Int32)) hx hb dX4_isIn_38 (by decide) ?_
            cases hM
            exact rt false _ _ dX4_isIn_39 rfl
          · have hM := ite_t c31 hM
            refine lv_iconst (v := (1 : Int32)) hx hb dX4_isIn_34 (by decide) ?_
            refine lv_goto (tgt := 39) hx hb dX4_isIn_35 (by decide) ?_
            cases hM
            exact rt true _ _ dX4_isIn_39 rfl
noncomputable def mX4_goesOf_b10 (s_q1 : Nat → Int32) (s_t_paper : Nat → Int32) (v2 : Int32) (v3 : Int32) : Nat → Int32 → Int32 → Int32 → Option (Int32)
  | 0, _, _, _ => none
  | n + 1, v4, v5, v6 => rd s_q1 66 (41 : Int32) (fun x15 => (if x15 ≤ v6 then some (v4) else rd s_q1 66 ((42 : Int32) + ((3 : Int32) * v6)) (fun x33 => rd s_q1 66 (((42 : Int32) + ((3 : Int32) * v6)) + (1 : Int32)) (fun x39 => (mX4_isWithin v2 (5 : Int32) x33 x39).bind (fun x40 => (if x40 = true then rd s_q1 66 (((42 : Int32) + ((3 : Int32) * v6)) + (1 : Int32)) (fun x51 => (if x51 ≤ v5 then mX4_goesOf_b10 s_q1 s_t_paper v2 v3 n v4 v5 (v6 + (1 : Int32)) else (mX4_isIn s_q1 s_t_paper v6 v3).bind (fun x62 => (if x62 = true then rd s_q1 66 (((42 : Int32) + ((3 : Int32) * v6)) + (1 : Int32)) (fun x77 => mX4_goesOf_b10 s_q1 s_t_paper v2 v3 n v6 x77 (v6 + (1 : Int32))) else mX4_goesOf_b10 s_q1 s_t_paper v2 v3 n v4 v5 (v6 + (1 : Int32)))))) else mX4_goesOf_b10 s_q1 s_t_paper v2 v3 n v4 v5 (v6 + (1 : Int32))))))))
noncomputable def mX4_goesOf (s_q1 : Nat → Int32) (s_t_paper : Nat → Int32) (v2 : Int32) (v3 : Int32) : Option (Int32) := mX4_goesOf_b10 s_q1 s_t_paper v2 v3 FU (-9 : Int32) (-1 : Int32) (0 : Int32)
set_option maxHeartbeats 4000000 in
set_option maxRecDepth 100000 in
theorem okX4_goesOf {l : Launch} {dC : Nat → ClassId} {dI : Nat → Nat → Nat} {cI cC cZ : ClassId} (a_t a_t_text a_t_paper a_t_now a_t_trial a_t_diary a_t_kept a_t_isKept a_t_seenAt a_t_worth a_t_readPaper a_t_read a_q1 : Nat) (s_t : Int32 × Int32 × Int32 × Int32 × Int32 × Int32 × Int32 × Int32 × Int32 × Int64) (s_q1 : Nat → Int32) (s_t_paper : Nat → Int32) (v2 : Int32) (v3 : Int32) (res : Int32) (hM : mX4_goesOf s_q1 s_t_paper v2 v3 = some res) : Rd l yX4_goesOf cX4_goesOf 8 (some .int) 8 194 (dC, dI) cI cC cZ [(a_t, .inr (4, [.ref a_t_text, .int s_t.1, .int s_t.2.1, .ref a_t_paper, .ref a_t_now, .ref a_t_trial, .ref a_t_diary, .int s_t.2.2.1, .int s_t.2.2.2.1, .ref a_t_kept, .ref a_t_isKept, .ref a_t_seenAt, .int s_t.2.2.2.2.1, .long s_t.2.2.2.2.2.2.2.2.2, .ref a_t_worth, .int s_t.2.2.2.2.2.1, .int s_t.2.2.2.2.2.2.1, .ref a_t_readPaper, .ref a_t_read, .int s_t.2.2.2.2.2.2.2.1, .int s_t.2.2.2.2.2.2.2.2.1])), (a_q1, .inl (cI, 66, .inl s_q1)), (a_t_paper, .inl (cI, 24, .inl s_t_paper))] [.ref a_t, .ref a_q1, .int v2, .int v3] (some (.int res)) := by
  refine Rd.ofI (by decide) (Nat.le_of_ble_eq_true rfl) [(0, .ref a_t), (1, .ref a_q1), (2, .int v2), (3, .int v3)] rfl ?_
  intro p e s m args below meth c ls Q hx hb hml hown hU hE hP rt hl
  have hown : s.vm.findClass RX4 = some m.cls := hown
  unfold mX4_goesOf at hM
  refine lv_bipush (v := (-9 : Int32)) hx hb dX4_goesOf_0 (by decide) ?_
  refine lv_istore (lv' := [(4, .int (-9 : Int32)), (0, .ref a_t), (1, .ref a_q1), (2, .int v2), (3, .int v3)]) hx hb dX4_goesOf_2 hl (by decide) rfl (fun ls hl => ?_)
  refine lv_iconst (v := (-1 : Int32)) hx hb dX4_goesOf_4 (by decide) ?_
  refine lv_istore (lv' := [(5, .int (-1 : Int32)), (4, .int (-9 : Int32)), (0, .ref a_t), (1, .ref a_q1), (2, .int v2), (3, .int v3)]) hx hb dX4_goesOf_5 hl (by decide) rfl (fun ls hl => ?_)
  refine lv_iconst (v := (0 : Int32)) hx hb dX4_goesOf_7 (by decide) ?_
  refine lv_istore (lv' := [(6, .int (0 : Int32)), (5, .int (-1 : Int32)), (4, .int (-9 : Int32)), (0, .ref a_t), (1, .ref a_q1), (2, .int v2), (3, .int v3)]) hx hb dX4_goesOf_8 hl (by decide) rfl (fun ls hl => ?_)
  have w_10 : ∀ (n : Nat) (v4_10 : Int32) (v5_10 : Int32) (v6_10 : Int32), mX4_goesOf_b10 s_q1 s_t_paper v2 v3 n v4_10 v5_10 v6_10 = some res → ∀ (ls : Array Slot), lv_has ls 8 [(0, .ref a_t), (1, .ref a_q1), (2, .int v2), (3, .int v3), (4, .int v4_10), (5, .int v5_10), (6, .int v6_10)] → W p l e (RM 8 194) s m args below meth c s.heap [] 0 0 Q (F0 m 10 ls []) := by
    intro n
    induction n with
    | zero =>
      intro v4_10 v5_10 v6_10 hM
      rw [mX4_goesOf_b10] at hM
      cases hM
    | succ n_10 ih_10 =>
      intro v4_10 v5_10 v6_10 hM ls hl
      rw [mX4_goesOf_b10] at hM
      refine lv_iload hx hb dX4_goesOf_10 (lv_at hl 6 rfl) ?_
      refine lv_aload_n hx hb dX4_goesOf_12 rfl (lv_at hl 1 rfl) ?_
      refine lv_bipush (v := (41 : Int32)) hx hb dX4_goesOf_13 (by decide) ?_
      obtain ⟨g15, hM⟩ := rd_e hM
      refine va_iald hx hb hE.1 hP 1 0 rfl rfl g15 dX4_goesOf_15 ?_
      refine lv_icmp_ge (tgt := 86) hx hb dX4_goesOf_16 (by decide) (fun c16 => ?_) (fun c16 => ?_)
      · have hM := ite_t c16 hM
        refine lv_iload hx hb dX4_goesOf_86 (lv_at hl 4 rfl) ?_
        cases hM
        exact rt _ _ _ dX4_goesOf_88 rfl
      · have hM := ite_f c16 hM
        refine lv_bipush (v := (42 : Int32)) hx hb dX4_goesOf_19 (by decide) ?_
        refine lv_iconst (v := (3 : Int32)) hx hb dX4_goesOf_21 (by decide) ?_
        refine lv_iload hx hb dX4_goesOf_22 (lv_at hl 6 rfl) ?_
        refine lv_imul hx hb dX4_goesOf_24 ?_
        refine lv_iadd hx hb dX4_goesOf_25 ?_
        refine lv_istore (lv' := [(7, .int ((42 : Int32) + ((3 : Int32) * v6_10))), (0, .ref a_t), (1, .ref a_q1), (2, .int v2), (3, .int v3), (4, .int v4_10), (5, .int v5_10), (6, .int v6_10)]) hx hb dX4_goesOf_26 hl (by decide) rfl (fun ls hl => ?_)
        refine lv_iload_n hx hb dX4_goesOf_28 rfl (lv_at hl 3 rfl) ?_
        refine lv_iconst (v := (5 : Int32)) hx hb dX4_goesOf_29 (by decide) ?_
        refine lv_aload_n hx hb dX4_goesOf_30 rfl (lv_at hl 2 rfl) ?_
        refine lv_iload hx hb dX4_goesOf_31 (lv_at hl 0 rfl) ?_
        obtain ⟨g33, hM⟩ := rd_e hM
        refine va_iald hx hb hE.1 hP 1 0 rfl rfl g33 dX4_goesOf_33 ?_
        refine lv_aload_n hx hb dX4_goesOf_34 rfl (lv_at hl 2 rfl) ?_
        refine lv_iload hx hb dX4_goesOf_35 (lv_at hl 0 rfl) ?_
        refine lv_iconst (v := (1 : Int32)) hx hb dX4_goesOf_37 (by decide) ?_
        refine lv_iadd hx hb dX4_goesOf_38 ?_
        obtain ⟨g39, hM⟩ := rd_e hM
        refine va_iald hx hb hE.1 hP 1 0 rfl rfl g39 dX4_goesOf_39 ?_
        obtain ⟨x40, h40, hM⟩ := bind_e hM
        refine rdS (As := [.int v2, .int (5 : Int32), .int (s_q1 ((42 : Int32) + ((3 : Int32) * v6_10)).toNatClampNeg), .int (s_q1 (((42 : Int32) + ((3 : Int32) * v6_10)) + (1 : Int32)).toNatClampNeg)]) (rest := []) (st2 := [.int (b2i x40)]) ⟨hx, hb, hml, hown, hU⟩ hE (okX4_isWithin v2 (5 : Int32) (s_q1 ((42 : Int32) + ((3 : Int32) * v6_10)).toNatClampNeg) (s_q1 (((42 : Int32) + ((3 : Int32) * v6_10)) + (1 : Int32)).toNatClampNeg) x40 h40) lk_X4_123 (hP.sub [] rfl) rfl hl.1 rfl (Nat.le_of_ble_eq_true rfl) ⟨Nat.le_of_ble_eq_true rfl, Nat.le_of_ble_eq_true rfl⟩ dX4_goesOf_40 ⟨Nat.le_refl _, Nat.le_refl _⟩ rfl ?_
        refine lv_if_eq (tgt := 80) hx hb dX4_goesOf_43 (by decide) (fun c43 => ?_) (fun c43 => ?_)
        · have hM := ite_f (b2i_eq0 c43) hM
          refine lv_iinc (v := (v6_10 + (1 : Int32))) (lv' := [(6, .int (v6_10 + (1 : Int32))), (7, .int ((42 : Int32) + ((3 : Int32) * v6_10))), (0, .ref a_t), (1, .ref a_q1), (2, .int v2), (3, .int v3), (4, .int v4_10), (5, .int v5_10)]) hx hb dX4_goesOf_80 hl (k := 7) rfl rfl (by decide) rfl (fun ls hl => ?_)
          refine lv_goto (tgt := 10) hx hb dX4_goesOf_83 (by decide) ?_
          exact ih_10 v4_10 v5_10 (v6_10 + (1 : Int32)) hM ls (lv_sub hl [2, 3, 4, 5, 6, 7, 0] rfl)
        · have hM := ite_t (b2i_ne0 c43) hM
          refine lv_aload_n hx hb dX4_goesOf_46 rfl (lv_at hl 2 rfl) ?_
          refine lv_iload hx hb dX4_goesOf_47 (lv_at hl 0 rfl) ?_
          refine lv_iconst (v := (1 : Int32)) hx hb dX4_goesOf_49 (by decide) ?_
          refine lv_iadd hx hb dX4_goesOf_50 ?_
          obtain ⟨g51, hM⟩ := rd_e hM
          refine va_iald hx hb hE.1 hP 1 0 rfl rfl g51 dX4_goesOf_51 ?_
          refine lv_iload hx hb dX4_goesOf_52 (lv_at hl 6 rfl) ?_
          refine lv_icmp_le (tgt := 80) hx hb dX4_goesOf_54 (by decide) (fun c54 => ?_) (fun c54 => ?_)
          · have hM := ite_t c54 hM
            refine lv_iinc (v := (v6_10 + (1 : Int32))) (lv' := [(6, .int (v6_10 + (1 : Int32))), (7, .int ((42 : Int32) + ((3 : Int32) * v6_10))), (0, .ref a_t), (1, .ref a_q1), (2, .int v2), (3, .int v3), (4, .int v4_10), (5, .int v5_10)]) hx hb dX4_goesOf_80 hl (k := 7) rfl rfl (by decide) rfl (fun ls hl => ?_)
            refine lv_goto (tgt := 10) hx hb dX4_goesOf_83 (by decide) ?_
            exact ih_10 v4_10 v5_10 (v6_10 + (1 : Int32)) hM ls (lv_sub hl [2, 3, 4, 5, 6, 7, 0] rfl)
          · have hM := ite_f c54 hM
            refine lv_aload_n hx hb dX4_goesOf_57 rfl (lv_at hl 1 rfl) ?_
            refine lv_aload_n hx hb dX4_goesOf_58 rfl (lv_at hl 2 rfl) ?_
            refine lv_iload hx hb dX4_goesOf_59 (lv_at hl 7 rfl) ?_
            refine lv_iload_n hx hb dX4_goesOf_61 rfl (lv_at hl 4 rfl) ?_
            obtain ⟨x62, h62, hM⟩ := bind_e hM
            refine rdV (As := [.ref a_q1, .int v6_10, .int v3]) (rest := []) (st2 := [.int (b2i x62)]) ⟨hx, hb, hml, hown, hU⟩ hE (okX4_isIn a_t a_t_text a_t_paper a_t_now a_t_trial a_t_diary a_t_kept a_t_isKept a_t_seenAt a_t_worth a_t_readPaper a_t_read a_q1 s_t s_q1 s_t_paper v6_10 v3 x62 h62) lk_X4_150 (hP.sub [0, 1, 2] rfl) rfl rfl rfl hl.1 rfl (Nat.le_of_ble_eq_true rfl) ⟨Nat.le_of_ble_eq_true rfl, Nat.le_of_ble_eq_true rfl⟩ dX4_goesOf_62 ⟨Nat.le_refl _, Nat.le_refl _⟩ rfl ?_
            refine lv_if_eq (tgt := 80) hx hb dX4_goesOf_65 (by decide) (fun c65 => ?_) (fun c65 => ?_)
            · have hM := ite_f (b2i_eq0 c65) hM
              refine lv_iinc (v := (v6_10 + (1 : Int32))) (lv' := [(6, .int (v6_10 + (1 : Int32))), (7, .int ((42 : Int32) + ((3 : Int32) * v6_10))), (0, .ref a_t), (1, .ref a_q1), (2, .int v2), (3, .int v3), (4, .int v4_10), (5, .int v5_10)]) hx hb dX4_goesOf_80 hl (k := 7) rfl rfl (by decide) rfl (fun ls hl => ?_)
              refine lv_goto (tgt := 10) hx hb dX4_goesOf_83 (by decide) ?_
              exact ih_10 v4_10 v5_10 (v6_10 + (1 : Int32)) hM ls (lv_sub hl [2, 3, 4, 5, 6, 7, 0] rfl)
            · have hM := ite_t (b2i_ne0 c65) hM
              refine lv_iload hx hb dX4_goesOf_68 (lv_at hl 7 rfl) ?_
              refine lv_istore (lv' := [(4, .int v6_10), (7, .int ((42 : Int32) + ((3 : Int32) * v6_10))), (0, .ref a_t), (1, .ref a_q1), (2, .int v2), (3, .int v3), (5, .int v5_10), (6, .int v6_10)]) hx hb dX4_goesOf_70 hl (by decide) rfl (fun ls hl => ?_)
              refine lv_aload_n hx hb dX4_goesOf_72 rfl (lv_at hl 3 rfl) ?_
              refine lv_iload hx hb dX4_goesOf_73 (lv_at hl 1 rfl) ?_
              refine lv_iconst (v := (1 : Int32)) hx hb dX4_goesOf_75 (by decide) ?_
              refine lv_iadd hx hb dX4_goesOf_76 ?_
              obtain ⟨g77, hM⟩ := rd_e hM
              refine va_iald hx hb hE.1 hP 1 0 rfl rfl g77 dX4_goesOf_77 ?_
              refine lv_istore (lv' := [(5, .int (s_q1 (((42 : Int32) + ((3 : Int32) * v6_10)) + (1 : Int32)).toNatClampNeg)), (4, .int v6_10), (7, .int ((42 : Int32) + ((3 : Int32) * v6_10))), (0, .ref a_t), (1, .ref a_q1), (2, .int v2), (3, .int v3), (6, .int v6_10)]) hx hb dX4_goesOf_78 hl (by decide) rfl (fun ls hl => ?_)
              refine lv_iinc (v := (v6_10 + (1 : Int32))) (lv' := [(6, .int (v6_10 + (1 : Int32))), (5, .int (s_q1 (((42 : Int32) + ((3 : Int32) * v6_10)) + (1 : Int32)).toNatClampNeg)), (4, .int v6_10), (7, .int ((42 : Int32) + ((3 : Int32) * v6_10))), (0, .ref a_t), (1, .ref a_q1), (2, .int v2), (3, .int v3)]) hx hb dX4_goesOf_80 hl (k := 7) rfl rfl (by decide) rfl (fun ls hl => ?_)
              refine lv_goto (tgt := 10) hx hb dX4_goesOf_83 (by decide) ?_
              exact ih_10 v6_10 (s_q1 (((42 : Int32) + ((3 : Int32) * v6_10)) + (1 : Int32)).toNatClampNeg) (v6_10 + (1 : Int32)) hM ls (lv_sub hl [4, 5, 6, 7, 2, 1, 0] rfl)
  exact w_10 FU (-9 : Int32) (-1 : Int32) (0 : Int32) hM ls (lv_sub hl [3, 4, 5, 6, 2, 1, 0] rfl)
noncomputable def mX4_isLaw (v0 : Int32) : Option (Bool) := (mX4_in (v0.toInt64) (0 : Int64) (3 : Int64)).bind (fun x6 => some (x6))
set_option maxHeartbeats 4000000 in
set_option maxRecDepth 100000 in
theorem okX4_isLaw {l : Launch} {dC : Nat → ClassId} {dI : Nat → Nat → Nat} {cI cC cZ : ClassId} (v0 : Int32) (res : Bool) (hM : mX4_isLaw v0 = some res) : Rd l yX4_isLaw cX4_isLaw 1 (some .boolean) 1 25 (dC, dI) cI cC cZ [] [.int v0] (some (.int (b2i res))) := by
  refine Rd.ofZ (by decide) (Nat.le_of_ble_eq_true rfl) [(0, .int v0)] rfl ?_
  intro p e s m args below meth c ls Q hx hb hml hown hU hE hP rt hl
  have hown : s.vm.findClass RX4 = some m.cls := hown
  unfold mX4_isLaw at hM
  refine lv_iload_n hx hb dX4_isLaw_0 rfl (lv_at hl 0 rfl) ?_
  refine lv_i2l (v := (v0.toInt64)) hx hb dX4_isLaw_1 rfl ?_
  refine lv_lconst (v := (0 : Int64)) hx hb dX4_isLaw_2 (by decide) ?_
  refine lv_ldc2 hx hb hown (hU _ u_23_20) dX4_isLaw_3 ?_
  obtain ⟨x6, h6, hM⟩ := bind_e hM
  refine rdS (As := [.long (v0.toInt64), .long (0 : Int64), .long (3 : Int64)]) (rest := []) (st2 := [.int (b2i x6)]) ⟨hx, hb, hml, hown, hU⟩ hE (okX4_in (v0.toInt64) (0 : Int64) (3 : Int64) x6 h6) lk_X4_50 (hP.sub [] rfl) rfl hl.1 rfl (Nat.le_of_ble_eq_true rfl) ⟨Nat.le_of_ble_eq_true rfl, Nat.le_of_ble_eq_true rfl⟩ dX4_isLaw_6 ⟨Nat.le_refl _, Nat.le_refl _⟩ rfl ?_
  cases hM
  exact rt _ _ _ dX4_isLaw_9 rfl
noncomputable def mX4_goes (s_t_now : Nat → Int32) (s_t_paper : Nat → Int32) (v1 : Int32) (v2 : Int32) : Option (Int32) := (mX4_in (v1.toInt64) (0 : Int64) (31 : Int64)).bind (fun x6 => (if x6 = true then (mX4_isLaw v2).bind (fun x15 => (if x15 = true then (mX4_goesOf s_t_now s_t_paper v1 v2).bind (fun x28 => some (x28)) else some ((-2 : Int32)))) else some ((-1 : Int32))))
set_option maxHeartbeats 4000000 in
set_option maxRecDepth 100000 in
theorem okX4_goes {l : Launch} {dC : Nat → ClassId} {dI : Nat → Nat → Nat} {cI cC cZ : ClassId} (a_t a_t_text a_t_paper a_t_now a_t_trial a_t_diary a_t_kept a_t_isKept a_t_seenAt a_t_worth a_t_readPaper a_t_read : Nat) (s_t : Int32 × Int32 × Int32 × Int32 × Int32 × Int32 × Int32 × Int32 × Int32 × Int64) (s_t_now : Nat → Int32) (s_t_paper : Nat → Int32) (v1 : Int32) (v2 : Int32) (res : Int32) (hM : mX4_goes s_t_now s_t_paper v1 v2 = some res) : Rd l yX4_goes cX4_goes 3 (some .int) 9 221 (dC, dI) cI cC cZ [(a_t, .inr (4, [.ref a_t_text, .int s_t.1, .int s_t.2.1, .ref a_t_paper, .ref a_t_now, .ref a_t_trial, .ref a_t_diary, .int s_t.2.2.1, .int s_t.2.2.2.1, .ref a_t_kept, .ref a_t_isKept, .ref a_t_seenAt, .int s_t.2.2.2.2.1, .long s_t.2.2.2.2.2.2.2.2.2, .ref a_t_worth, .int s_t.2.2.2.2.2.1, .int s_t.2.2.2.2.2.2.1, .ref a_t_readPaper, .ref a_t_read, .int s_t.2.2.2.2.2.2.2.1, .int s_t.2.2.2.2.2.2.2.2.1])), (a_t_now, .inl (cI, 66, .inl s_t_now)), (a_t_paper, .inl (cI, 24, .inl s_t_paper))] [.ref a_t, .int v1, .int v2] (some (.int res)) := by
  refine Rd.ofI (by decide) (Nat.le_of_ble_eq_true rfl) [(0, .ref a_t), (1, .int v1), (2, .int v2)] rfl ?_
  intro p e s m args below meth c ls Q hx hb hml hown hU hE hP rt hl
  have hown : s.vm.findClass RX4 = some m.cls := hown
  unfold mX4_goes at hM
  refine lv_iload_n hx hb dX4_goes_0 rfl (lv_at hl 1 rfl) ?_
  refine lv_i2l (v := (v1.toInt64)) hx hb dX4_goes_1 rfl ?_
  refine lv_lconst (v := (0 : Int64)) hx hb dX4_goes_2 (by decide) ?_
  refine lv_ldc2 hx hb hown (hU _ u_9_15) dX4_goes_3 ?_
  obtain ⟨x6, h6, hM⟩ := bind_e hM
  refine rdS (As := [.long (v1.toInt64), .long (0 : Int64), .long (31 : Int64)]) (rest := []) (st2 := [.int (b2i x6)]) ⟨hx, hb, hml, hown, hU⟩ hE (okX4_in (v1.toInt64) (0 : Int64) (31 : Int64) x6 h6) lk_X4_50 (hP.sub [] rfl) rfl hl.1 rfl (Nat.le_of_ble_eq_true rfl) ⟨Nat.le_of_ble_eq_true rfl, Nat.le_of_ble_eq_true rfl⟩ dX4_goes_6 ⟨Nat.le_refl _, Nat.le_refl _⟩ rfl ?_
  refine lv_if_ne (tgt := 14) hx hb dX4_goes_9 (by decide) (fun c9 => ?_) (fun c9 => ?_)
  · have hM := ite_t (b2i_ne0 c9) hM
    refine lv_iload_n hx hb dX4_goes_14 rfl (lv_at hl 2 rfl) ?_
    obtain ⟨x15, h15, hM⟩ := bind_e hM
    refine rdS (As := [.int v2]) (rest := []) (st2 := [.int (b2i x15)]) ⟨hx, hb, hml, hown, hU⟩ hE (okX4_isLaw v2 x15 h15) lk_X4_200 (hP.sub [] rfl) rfl hl.1 rfl (Nat.le_of_ble_eq_true rfl) ⟨Nat.le_of_ble_eq_true rfl, Nat.le_of_ble_eq_true rfl⟩ dX4_goes_15 ⟨Nat.le_refl _, Nat.le_refl _⟩ rfl ?_
    refine lv_if_eq (tgt := 34) hx hb dX4_goes_18 (by decide) (fun c18 => ?_) (fun c18 => ?_)
    · have hM := ite_f (b2i_eq0 c18) hM
      refine lv_bipush (v := (-2 : Int32)) hx hb dX4_goes_34 (by decide) ?_
      cases hM
      exact rt _ _ _ dX4_goes_36 rfl
    · have hM := ite_t (b2i_ne0 c18) hM
      refine lv_aload_n hx hb dX4_goes_21 rfl (lv_at hl 0 rfl) ?_
      refine lv_aload_n hx hb dX4_goes_22 rfl (lv_at hl 0 rfl) ?_
      refine va_get (D := (dC, dI)) (ci := 4) (v := .ref a_t_now) (C := RX4) (T := TX4) (N := 21) hx hb hU inlX4 hown hE.1 hP 0 rfl rfl 4 (by decide) (hU _ u_4_15) (fun _ h9 => h9) rfl dX4_goes_23 ?_
      refine lv_iload_n hx hb dX4_goes_26 rfl (lv_at hl 1 rfl) ?_
      refine lv_iload_n hx hb dX4_goes_27 rfl (lv_at hl 2 rfl) ?_
      obtain ⟨x28, h28, hM⟩ := bind_e hM
      refine rdV (As := [.ref a_t_now, .int v1, .int v2]) (rest := []) (st2 := [.int x28]) ⟨hx, hb, hml, hown, hU⟩ hE (okX4_goesOf a_t a_t_text a_t_paper a_t_now a_t_trial a_t_diary a_t_kept a_t_isKept a_t_seenAt a_t_worth a_t_readPaper a_t_read a_t_now s_t s_t_now s_t_paper v1 v2 x28 h28) lk_X4_203 (hP.sub [0, 1, 2] rfl) rfl rfl rfl hl.1 rfl (Nat.le_of_ble_eq_true rfl) ⟨Nat.le_of_ble_eq_true rfl, Nat.le_of_ble_eq_true rfl⟩ dX4_goes_28 ⟨Nat.le_refl _, Nat.le_refl _⟩ rfl ?_
      refine lv_goto (tgt := 36) hx hb dX4_goes_31 (by decide) ?_
      cases hM
      exact rt _ _ _ dX4_goes_36 rfl
  · have hM := ite_f (b2i_eq0 c9) hM
    refine lv_iconst (v := (-1 : Int32)) hx hb dX4_goes_12 (by decide) ?_
    cases hM
    exact rt _ _ _ dX4_goes_13 rfl
noncomputable def mX4_isGrant (s_t_now : Nat → Int32) (v1 : Int32) : Option (Bool) := rd s_t_now 66 (0 : Int32) (fun x8 => (mX4_in (v1.toInt64) (0 : Int64) ((x8 - (1 : Int32)).toInt64)).bind (fun x12 => some (x12)))
set_option maxHeartbeats 4000000 in
set_option maxRecDepth 100000 in
theorem okX4_isGrant {l : Launch} {dC : Nat → ClassId} {dI : Nat → Nat → Nat} {cI cC cZ : ClassId} (a_t a_t_text a_t_paper a_t_now a_t_trial a_t_diary a_t_kept a_t_isKept a_t_seenAt a_t_worth a_t_readPaper a_t_read : Nat) (s_t : Int32 × Int32 × Int32 × Int32 × Int32 × Int32 × Int32 × Int32 × Int32 × Int64) (s_t_now : Nat → Int32) (v1 : Int32) (res : Bool) (hM : mX4_isGrant s_t_now v1 = some res) : Rd l yX4_isGrant cX4_isGrant 2 (some .boolean) 1 25 (dC, dI) cI cC cZ [(a_t, .inr (4, [.ref a_t_text, .int s_t.1, .int s_t.2.1, .ref a_t_paper, .ref a_t_now, .ref a_t_trial, .ref a_t_diary, .int s_t.2.2.1, .int s_t.2.2.2.1, .ref a_t_kept, .ref a_t_isKept, .ref a_t_seenAt, .int s_t.2.2.2.2.1, .long s_t.2.2.2.2.2.2.2.2.2, .ref a_t_worth, .int s_t.2.2.2.2.2.1, .int s_t.2.2.2.2.2.2.1, .ref a_t_readPaper, .ref a_t_read, .int s_t.2.2.2.2.2.2.2.1, .int s_t.2.2.2.2.2.2.2.2.1])), (a_t_now, .inl (cI, 66, .inl s_t_now))] [.ref a_t, .int v1] (some (.int (b2i res))) := by
  refine Rd.ofZ (by decide) (Nat.le_of_ble_eq_true rfl) [(0, .ref a_t), (1, .int v1)] rfl ?_
  intro p e s m args below meth c ls Q hx hb hml hown hU hE hP rt hl
  have hown : s.vm.findClass RX4 = some m.cls := hown
  unfold mX4_isGrant at hM
  refine lv_iload_n hx hb dX4_isGrant_0 rfl (lv_at hl 1 rfl) ?_
  refine lv_i2l (v := (v1.toInt64)) hx hb dX4_isGrant_1 rfl ?_
  refine lv_lconst (v := (0 : Int64)) hx hb dX4_isGrant_2 (by decide) ?_
  refine lv_aload_n hx hb dX4_isGrant_3 rfl (lv_at hl 0 rfl) ?_
  refine va_get (D := (dC, dI)) (ci := 4) (v := .ref a_t_now) (C := RX4) (T := TX4) (N := 21) hx hb hU inlX4 hown hE.1 hP 0 rfl rfl 4 (by decide) (hU _ u_4_15) (fun _ h9 => h9) rfl dX4_isGrant_4 ?_
  refine lv_iconst (v := (0 : Int32)) hx hb dX4_isGrant_7 (by decide) ?_
  obtain ⟨g8, hM⟩ := rd_e hM
  refine va_iald hx hb hE.1 hP 1 0 rfl rfl g8 dX4_isGrant_8 ?_
  refine lv_iconst (v := (1 : Int32)) hx hb dX4_isGrant_9 (by decide) ?_
  refine lv_isub hx hb dX4_isGrant_10 ?_
  refine lv_i2l (v := (((s_t_now (0 : Int32).toNatClampNeg) - (1 : Int32)).toInt64)) hx hb dX4_isGrant_11 rfl ?_
  obtain ⟨x12, h12, hM⟩ := bind_e hM
  refine rdS (As := [.long (v1.toInt64), .long (0 : Int64), .long (((s_t_now (0 : Int32).toNatClampNeg) - (1 : Int32)).toInt64)]) (rest := []) (st2 := [.int (b2i x12)]) ⟨hx, hb, hml, hown, hU⟩ hE (okX4_in (v1.toInt64) (0 : Int64) (((s_t_now (0 : Int32).toNatClampNeg) - (1 : Int32)).toInt64) x12 h12) lk_X4_50 (hP.sub [] rfl) rfl hl.1 rfl (Nat.le_of_ble_eq_true rfl) ⟨Nat.le_of_ble_eq_true rfl, Nat.le_of_ble_eq_true rfl⟩ dX4_isGrant_12 ⟨Nat.le_refl _, Nat.le_refl _⟩ rfl ?_
  cases hM
  exact rt _ _ _ dX4_isGrant_15 rfl
noncomputable def mX4_grant (s_t_now : Nat → Int32) (s_t_paper : Nat → Int32) (v1 : Int32) (v2 : Int32) : Option (Int32) := (mX4_isGrant s_t_now v1).bind (fun x2 => (if x2 = true then (if v2 = (5 : Int32) then (mX4_counts s_t_now s_t_paper v1).bind (fun x21 => (if x21 = true then some ((1 : Int32)) else some ((0 : Int32)))) else (mX4_in (v2.toInt64) (0 : Int64) (4 : Int64)).bind (fun x39 => (if x39 = true then rd s_t_now 66 (((1 : Int32) + ((5 : Int32) * v1)) + v2) (fun x56 => some (x56)) else some ((-2 : Int32))))) else some ((-1 : Int32))))
set_option maxHeartbeats 4000000 in
set_option maxRecDepth 100000 in
theorem okX4_grant {l : Launch} {dC : Nat → ClassId} {dI : Nat → Nat → Nat} {cI cC cZ : ClassId} (a_t a_t_text a_t_paper a_t_now a_t_trial a_t_diary a_t_kept a_t_isKept a_t_seenAt a_t_worth a_t_readPaper a_t_read : Nat) (s_t : Int32 × Int32 × Int32 × Int32 × Int32 × Int32 × Int32 × Int32 × Int32 × Int64) (s_t_now : Nat → Int32) (s_t_paper : Nat → Int32) (v1 : Int32) (v2 : Int32) (res : Int32) (hM : mX4_grant s_t_now s_t_paper v1 v2 = some res) : Rd l yX4_grant cX4_grant 3 (some .int) 4 93 (dC, dI) cI cC cZ [(a_t, .inr (4, [.ref a_t_text, .int s_t.1, .int s_t.2.1, .ref a_t_paper, .ref a_t_now, .ref a_t_trial, .ref a_t_diary, .int s_t.2.2.1, .int s_t.2.2.2.1, .ref a_t_kept, .ref a_t_isKept, .ref a_t_seenAt, .int s_t.2.2.2.2.1, .long s_t.2.2.2.2.2.2.2.2.2, .ref a_t_worth, .int s_t.2.2.2.2.2.1, .int s_t.2.2.2.2.2.2.1, .ref a_t_readPaper, .ref a_t_read, .int s_t.2.2.2.2.2.2.2.1, .int s_t.2.2.2.2.2.2.2.2.1])), (a_t_now, .inl (cI, 66, .inl s_t_now)), (a_t_paper, .inl (cI, 24, .inl s_t_paper))] [.ref a_t, .int v1, .int v2] (some (.int res)) := by
  refine Rd.ofI (by decide) (Nat.le_of_ble_eq_true rfl) [(0, .ref a_t), (1, .int v1), (2, .int v2)] rfl ?_
  intro p e s m args below meth c ls Q hx hb hml hown hU hE hP rt hl
  have hown : s.vm.findClass RX4 = some m.cls := hown
  unfold mX4_grant at hM
  refine lv_aload_n hx hb dX4_grant_0 rfl (lv_at hl 0 rfl) ?_
  refine lv_iload_n hx hb dX4_grant_1 rfl (lv_at hl 1 rfl) ?_
  obtain ⟨x2, h2, hM⟩ := bind_e hM
  refine rdV (As := [.int v1]) (rest := []) (st2 := [.int (b2i x2)]) ⟨hx, hb, hml, hown, hU⟩ hE (okX4_isGrant a_t a_t_text a_t_paper a_t_now a_t_trial a_t_diary a_t_kept a_t_isKept a_t_seenAt a_t_worth a_t_readPaper a_t_read s_t s_t_now v1 x2 h2) lk_X4_169 (hP.sub [0, 1] rfl) rfl rfl rfl hl.1 rfl (Nat.le_of_ble_eq_true rfl) ⟨Nat.le_of_ble_eq_true rfl, Nat.le_of_ble_eq_true rfl⟩ dX4_grant_2 ⟨Nat.le_refl _, Nat.le_refl _⟩ rfl ?_
  refine lv_if_ne (tgt := 10) hx hb dX4_grant_5 (by decide) (fun c5 => ?_) (fun c5 => ?_)
  · have hM := ite_t (b2i_ne0 c5) hM
    refine lv_iload_n hx hb dX4_grant_10 rfl (lv_at hl 2 rfl) ?_
    refine lv_iconst (v := (5 : Int32)) hx hb dX4_grant_11 (by decide) ?_
    refine lv_icmp_ne (tgt := 33) hx hb dX4_grant_12 (by decide) (fun c12 => ?_) (fun c12 => ?_)
    · have hM := ite_f c12 hM
      refine lv_iload_n hx hb dX4_grant_33 rfl (lv_at hl 2 rfl) ?_
      refine lv_i2l (v := (v2.toInt64)) hx hb dX4_grant_34 rfl ?_
      refine lv_lconst (v := (0 : Int64)) hx hb dX4_grant_35 (by decide) ?_
      refine lv_ldc2 hx hb hown (hU _ u_16_14) dX4_grant_36 ?_
      obtain ⟨x39, h39, hM⟩ := bind_e hM
      refine rdS (As := [.long (v2.toInt64), .long (0 : Int64), .long (4 : Int64)]) (rest := []) (st2 := [.int (b2i x39)]) ⟨hx, hb, hml, hown, hU⟩ hE (okX4_in (v2.toInt64) (0 : Int64) (4 : Int64) x39 h39) lk_X4_50 (hP.sub [] rfl) rfl hl.1 rfl (Nat.le_of_ble_eq_true rfl) ⟨Nat.le_of_ble_eq_true rfl, Nat.le_of_ble_eq_true rfl⟩ dX4_grant_39 ⟨Nat.le_refl _, Nat.le_refl _⟩ rfl ?_
      refine lv_if_eq (tgt := 60) hx hb dX4_grant_42 (by decide) (fun c42 => ?_) (fun c42 => ?_)
      · have hM := ite_f (b2i_eq0 c42) hM
        refine lv_bipush (v := (-2 : Int32)) hx hb dX4_grant_60 (by decide) ?_
        cases hM
        exact rt _ _ _ dX4_grant_62 rfl
      · have hM := ite_t (b2i_ne0 c42) hM
        refine lv_aload_n hx hb dX4_grant_45 rfl (lv_at hl 0 rfl) ?_
        refine va_get (D := (dC, dI)) (ci := 4) (v := .ref a_t_now) (C := RX4) (T := TX4) (N := 21) hx hb hU inlX4 hown hE.1 hP 0 rfl rfl 4 (by decide) (hU _ u_4_15) (fun _ h9 => h9) rfl dX4_grant_46 ?_
        refine lv_iconst (v := (1 : Int32)) hx hb dX4_grant_49 (by decide) ?_
        refine lv_iconst (v := (5 : Int32)) hx hb dX4_grant_50 (by decide) ?_
        refine lv_iload_n hx hb dX4_grant_51 rfl (lv_at hl 1 rfl) ?_
        refine lv_imul hx hb dX4_grant_52 ?_
        refine lv_iadd hx hb dX4_grant_53 ?_
        refine lv_iload_n hx hb dX4_grant_54 rfl (lv_at hl 2 rfl) ?_
        refine lv_iadd hx hb dX4_grant_55 ?_
        obtain ⟨g56, hM⟩ := rd_e hM
        refine va_iald hx hb hE.1 hP 1 0 rfl rfl g56 dX4_grant_56 ?_
        refine lv_goto (tgt := 62) hx hb dX4_grant_57 (by decide) ?_
        cases hM
        exact rt _ _ _ dX4_grant_62 rfl
    · have hM := ite_t c12 hM
      refine lv_aload_n hx hb dX4_grant_15 rfl (lv_at hl 0 rfl) ?_
      refine lv_aload_n hx hb dX4_grant_16 rfl (lv_at hl 0 rfl) ?_
      refine va_get (D := (dC, dI)) (ci := 4) (v := .ref a_t_now) (C := RX4) (T := TX4) (N := 21) hx hb hU inlX4 hown hE.1 hP 0 rfl rfl 4 (by decide) (hU _ u_4_15) (fun _ h9 => h9) rfl dX4_grant_17 ?_
      refine lv_iload_n hx hb dX4_grant_20 rfl (lv_at hl 1 rfl) ?_
      obtain ⟨x21, h21, hM⟩ := bind_e hM
      refine rdV (As := [.ref a_t_now, .int v1]) (rest := []) (st2 := [.int (b2i x21)]) ⟨hx, hb, hml, hown, hU⟩ hE (okX4_counts a_t a_t_text a_t_paper a_t_now a_t_trial a_t_diary a_t_kept a_t_isKept a_t_seenAt a_t_worth a_t_readPaper a_t_read a_t_now s_t s_t_now s_t_paper v1 x21 h21) lk_X4_131 (hP.sub [0, 1, 2] rfl) rfl rfl rfl hl.1 rfl (Nat.le_of_ble_eq_true rfl) ⟨Nat.le_of_ble_eq_true rfl, Nat.le_of_ble_eq_true rfl⟩ dX4_grant_21 ⟨Nat.le_refl _, Nat.le_refl _⟩ rfl ?_
      refine lv_if_eq (tgt := 31) hx hb dX4_grant_24 (by decide) (fun c24 => ?_) (fun c24 => ?_)
      · have hM := ite_f (b2i_eq0 c24) hM
        refine lv_iconst (v := (0 : Int32)) hx hb dX4_grant_31 (by decide) ?_
        cases hM
        exact rt _ _ _ dX4_grant_32 rfl
      · have hM := ite_t (b2i_ne0 c24) hM
        refine lv_iconst (v := (1 : Int32)) hx hb dX4_grant_27 (by decide) ?_
        refine lv_goto (tgt := 32) hx hb dX4_grant_28 (by decide) ?_
        cases hM
        exact rt _ _ _ dX4_grant_32 rfl
  · have hM := ite_f (b2i_eq0 c5) hM
    refine lv_iconst (v := (-1 : Int32)) hx hb dX4_grant_8 (by decide) ?_
    cases hM
    exact rt _ _ _ dX4_grant_9 rfl
noncomputable def mX4_isRoute (s_t_now : Nat → Int32) (v1 : Int32) : Option (Bool) := rd s_t_now 66 (41 : Int32) (fun x9 => (mX4_in (v1.toInt64) (0 : Int64) ((x9 - (1 : Int32)).toInt64)).bind (fun x13 => some (x13)))
set_option maxHeartbeats 4000000 in
set_option maxRecDepth 100000 in
theorem okX4_isRoute {l : Launch} {dC : Nat → ClassId} {dI : Nat → Nat → Nat} {cI cC cZ : ClassId} (a_t a_t_text a_t_paper a_t_now a_t_trial a_t_diary a_t_kept a_t_isKept a_t_seenAt a_t_worth a_t_readPaper a_t_read : Nat) (s_t : Int32 × Int32 × Int32 × Int32 × Int32 × Int32 × Int32 × Int32 × Int32 × Int64) (s_t_now : Nat → Int32) (v1 : Int32) (res : Bool) (hM : mX4_isRoute s_t_now v1 = some res) : Rd l yX4_isRoute cX4_isRoute 2 (some .boolean) 1 25 (dC, dI) cI cC cZ [(a_t, .inr (4, [.ref a_t_text, .int s_t.1, .int s_t.2.1, .ref a_t_paper, .ref a_t_now, .ref a_t_trial, .ref a_t_diary, .int s_t.2.2.1, .int s_t.2.2.2.1, .ref a_t_kept, .ref a_t_isKept, .ref a_t_seenAt, .int s_t.2.2.2.2.1, .long s_t.2.2.2.2.2.2.2.2.2, .ref a_t_worth, .int s_t.2.2.2.2.2.1, .int s_t.2.2.2.2.2.2.1, .ref a_t_readPaper, .ref a_t_read, .int s_t.2.2.2.2.2.2.2.1, .int s_t.2.2.2.2.2.2.2.2.1])), (a_t_now, .inl (cI, 66, .inl s_t_now))] [.ref a_t, .int v1] (some (.int (b2i res))) := by
  refine Rd.ofZ (by decide) (Nat.le_of_ble_eq_true rfl) [(0, .ref a_t), (1, .int v1)] rfl ?_
  intro p e s m args below meth c ls Q hx hb hml hown hU hE hP rt hl
  have hown : s.vm.findClass RX4 = some m.cls := hown
  unfold mX4_isRoute at hM
  refine lv_iload_n hx hb dX4_isRoute_0 rfl (lv_at hl 1 rfl) ?_
  refine lv_i2l (v := (v1.toInt64)) hx hb dX4_isRoute_1 rfl ?_
  refine lv_lconst (v := (0 : Int64)) hx hb dX4_isRoute_2 (by decide) ?_
  refine lv_aload_n hx hb dX4_isRoute_3 rfl (lv_at hl 0 rfl) ?_
  refine va_get (D := (dC, dI)) (ci := 4) (v := .ref a_t_now) (C := RX4) (T := TX4) (N := 21) hx hb hU inlX4 hown hE.1 hP 0 rfl rfl 4 (by decide) (hU _ u_4_15) (fun _ h9 => h9) rfl dX4_isRoute_4 ?_
  refine lv_bipush (v := (41 : Int32)) hx hb dX4_isRoute_7 (by decide) ?_
  obtain ⟨g9, hM⟩ := rd_e hM
  refine va_iald hx hb hE.1 hP 1 0 rfl rfl g9 dX4_isRoute_9 ?_
  refine lv_iconst (v := (1 : Int32)) hx hb dX4_isRoute_10 (by decide) ?_
  refine lv_isub hx hb dX4_isRoute_11 ?_
  refine lv_i2l (v := (((s_t_now (41 : Int32).toNatClampNeg) - (1 : Int32)).toInt64)) hx hb dX4_isRoute_12 rfl ?_
  obtain ⟨x13, h13, hM⟩ := bind_e hM
  refine rdS (As := [.long (v1.toInt64), .long (0 : Int64), .long (((s_t_now (41 : Int32).toNatClampNeg) - (1 : Int32)).toInt64)]) (rest := []) (st2 := [.int (b2i x13)]) ⟨hx, hb, hml, hown, hU⟩ hE (okX4_in (v1.toInt64) (0 : Int64) (((s_t_now (41 : Int32).toNatClampNeg) - (1 : Int32)).toInt64) x13 h13) lk_X4_50 (hP.sub [] rfl) rfl hl.1 rfl (Nat.le_of_ble_eq_true rfl) ⟨Nat.le_of_ble_eq_true rfl, Nat.le_of_ble_eq_true rfl⟩ dX4_isRoute_13 ⟨Nat.le_refl _, Nat.le_refl _⟩ rfl ?_
  cases hM
  exact rt _ _ _ dX4_isRoute_16 rfl
noncomputable def mX4_takeRoute_b15  : Nat → Int32 → (Nat → Int32) → Option (Nat → Int32)
  | 0, _, _ => none
  | n + 1, v2, s_q0 => rd s_q0 66 (41 : Int32) (fun x22 => (if ((42 : Int32) + ((3 : Int32) * x22)) ≤ v2 then some (s_q0) else rd s_q0 66 (v2 + (3 : Int32)) (fun x34 => wr s_q0 66 v2 x34 (fun x35 => mX4_takeRoute_b15 n (v2 + (1 : Int32)) x35))))
noncomputable def mX4_takeRoute (s_q0 : Nat → Int32) (v1 : Int32) : Option (Nat → Int32) := rd s_q0 66 (41 : Int32) (fun x4 => wr s_q0 66 (41 : Int32) (x4 - (1 : Int32)) (fun x7 => mX4_takeRoute_b15 FU ((42 : Int32) + ((3 : Int32) * v1)) x7))
set_option maxHeartbeats 4000000 in
set_option maxRecDepth 100000 in
theorem okX4_takeRoute {l : Launch} {dC : Nat → ClassId} {dI : Nat → Nat → Nat} {cI cC cZ : ClassId} (a_q0 : Nat) (s_q0 : Nat → Int32) (v1 : Int32) (res : Nat → Int32) (hM : mX4_takeRoute s_q0 v1 = some res) : Mu l yX4_takeRoute cX4_takeRoute 3 none 0 0 (dC, dI) cI cC cZ [(a_q0, .inl (cI, 66, .inl s_q0))] [(a_q0, .inl (cI, 66, .inl res))] [.ref a_q0, .int v1] none := by
  refine Mu.ofV (by decide) (Nat.le_of_ble_eq_true rfl) [(0, .ref a_q0), (1, .int v1)] rfl ?_
  intro p e s m args below meth c ls Q A hx hb hml hown hU hE hP hD hS hA rt hl
  have hown : s.vm.findClass RX4 = some m.cls := hown
  unfold mX4_takeRoute at hM
  refine lv_aload_n hx hb dX4_takeRoute_0 rfl (lv_at hl 0 rfl) ?_
  refine lv_bipush (v := (41 : Int32)) hx hb dX4_takeRoute_1 (by decide) ?_
  refine lv_dup2_11 hx hb dX4_takeRoute_3 rfl rfl ?_
  obtain ⟨g4, hM⟩ := rd_e hM
  refine va_iald hx hb hE.1 hP 0 0 rfl rfl g4 dX4_takeRoute_4 ?_
  refine lv_iconst (v := (1 : Int32)) hx hb dX4_takeRoute_5 (by decide) ?_
  refine lv_isub hx hb dX4_takeRoute_6 ?_
  obtain ⟨g7, hM⟩ := wr_e hM
  refine va_iast hx hb hE.1 hP hD hS 0 0 rfl rfl g7 dX4_takeRoute_7 (fun H locs hP hD hS => ?_)
  have hP : va_P (dC, dI) vwCl [(a_q0, .inl (cI, 66, .inl (upd s_q0 (41 : Int32).toNatClampNeg ((s_q0 (41 : Int32).toNatClampNeg) - (1 : Int32)))))] H := hP
  have hD : va_D A [(a_q0, .inl (cI, 66, .inl (upd s_q0 (41 : Int32).toNatClampNeg ((s_q0 (41 : Int32).toNatClampNeg) - (1 : Int32)))))] := hD
  refine lv_bipush (v := (42 : Int32)) hx hb dX4_takeRoute_8 (by decide) ?_
  refine lv_iconst (v := (3 : Int32)) hx hb dX4_takeRoute_10 (by decide) ?_
  refine lv_iload_n hx hb dX4_takeRoute_11 rfl (lv_at hl 1 rfl) ?_
  refine lv_imul hx hb dX4_takeRoute_12 ?_
  refine lv_iadd hx hb dX4_takeRoute_13 ?_
  refine lv_istore_n (lv' := [(2, .int ((42 : Int32) + ((3 : Int32) * v1))), (0, .ref a_q0), (1, .int v1)]) hx hb dX4_takeRoute_14 rfl hl (by decide) rfl (fun ls hl => ?_)
  have w_15 : ∀ (n : Nat) (v2_15 : Int32) (s_q0_15 : Nat → Int32), mX4_takeRoute_b15 n v2_15 s_q0_15 = some res → ∀ (ls : Array Slot) (H : Heap) (locs : List Loc), va_P (dC, dI) vwCl [(a_q0, .inl (cI, 66, .inl s_q0_15))] H → va_D A [(a_q0, .inl (cI, 66, .inl s_q0_15))] → va_S A s.heap H locs → lv_has ls 3 [(0, .ref a_q0), (2, .int v2_15)] → W p l e (RM 0 0) s m args below meth c H locs 0 0 Q (F0 m 15 ls []) := by
    intro n
    induction n with
    | zero =>
      intro v2_15 s_q0_15 hM
      rw [mX4_takeRoute_b15] at hM
      cases hM
    | succ n_15 ih_15 =>
      intro v2_15 s_q0_15 hM ls H locs hP hD hS hl
      rw [mX4_takeRoute_b15] at hM
      refine lv_iload_n hx hb dX4_takeRoute_15 rfl (lv_at hl 1 rfl) ?_
      refine lv_bipush (v := (42 : Int32)) hx hb dX4_takeRoute_16 (by decide) ?_
      refine lv_iconst (v := (3 : Int32)) hx hb dX4_takeRoute_18 (by decide) ?_
      refine lv_aload_n hx hb dX4_takeRoute_19 rfl (lv_at hl 0 rfl) ?_
      refine lv_bipush (v := (41 : Int32)) hx hb dX4_takeRoute_20 (by decide) ?_
      obtain ⟨g22, hM⟩ := rd_e hM
      refine va_iald hx hb hE.1 hP 0 0 rfl rfl g22 dX4_takeRoute_22 ?_
      refine lv_imul hx hb dX4_takeRoute_23 ?_
      refine lv_iadd hx hb dX4_takeRoute_24 ?_
      refine lv_icmp_ge (tgt := 42) hx hb dX4_takeRoute_25 (by decide) (fun c25 => ?_) (fun c25 => ?_)
      · have hM := ite_t c25 hM
        cases hM
        exact rt _ _ _ _ hP hS dX4_takeRoute_42 rfl
      · have hM := ite_f c25 hM
        refine lv_aload_n hx hb dX4_takeRoute_28 rfl (lv_at hl 0 rfl) ?_
        refine lv_iload_n hx hb dX4_takeRoute_29 rfl (lv_at hl 1 rfl) ?_
        refine lv_aload_n hx hb dX4_takeRoute_30 rfl (lv_at hl 0 rfl) ?_
        refine lv_iload_n hx hb dX4_takeRoute_31 rfl (lv_at hl 1 rfl) ?_
        refine lv_iconst (v := (3 : Int32)) hx hb dX4_takeRoute_32 (by decide) ?_
        refine lv_iadd hx hb dX4_takeRoute_33 ?_
        obtain ⟨g34, hM⟩ := rd_e hM
        refine va_iald hx hb hE.1 hP 0 0 rfl rfl g34 dX4_takeRoute_34 ?_
        obtain ⟨g35, hM⟩ := wr_e hM
        refine va_iast hx hb hE.1 hP hD hS 0 0 rfl rfl g35 dX4_takeRoute_35 (fun H locs hP hD hS => ?_)
        have hP : va_P (dC, dI) vwCl [(a_q0, .inl (cI, 66, .inl (upd s_q0_15 v2_15.toNatClampNeg (s_q0_15 (v2_15 + (3 : Int32)).toNatClampNeg))))] H := hP
        have hD : va_D A [(a_q0, .inl (cI, 66, .inl (upd s_q0_15 v2_15.toNatClampNeg (s_q0_15 (v2_15 + (3 : Int32)).toNatClampNeg))))] := hD
        refine lv_iinc (v := (v2_15 + (1 : Int32))) (lv' := [(2, .int (v2_15 + (1 : Int32))), (0, .ref a_q0)]) hx hb dX4_takeRoute_36 hl (k := 1) rfl rfl (by decide) rfl (fun ls hl => ?_)
        refine lv_goto (tgt := 15) hx hb dX4_takeRoute_39 (by decide) ?_
        exact ih_15 (v2_15 + (1 : Int32)) (upd s_q0_15 v2_15.toNatClampNeg (s_q0_15 (v2_15 + (3 : Int32)).toNatClampNeg)) hM ls _ _ hP hD hS (lv_sub hl [1, 0] rfl)
  exact w_15 FU ((42 : Int32) + ((3 : Int32) * v1)) (upd s_q0 (41 : Int32).toNatClampNeg ((s_q0 (41 : Int32).toNatClampNeg) - (1 : Int32))) hM ls _ _ hP hD hS (lv_sub hl [1, 0] rfl)
