noncomputable def mX4_wipe (s_t : Int32 × Int32 × Int32 × Int32 × Int32 × Int32 × Int32 × Int32 × Int32 × Int64) : Option (Int32 × (Int32 × Int32 × Int32 × Int32 × Int32 × Int32 × Int32 × Int32 × Int32 × Int64)) := some (s_t.1, ((0 : Int32), s_t.2.1, s_t.2.2.1, s_t.2.2.2.1, s_t.2.2.2.2.1, s_t.2.2.2.2.2.1, s_t.2.2.2.2.2.2.1, s_t.2.2.2.2.2.2.2.1, s_t.2.2.2.2.2.2.2.2.1, s_t.2.2.2.2.2.2.2.2.2))
set_option maxHeartbeats 4000000 in
set_option maxRecDepth 100000 in
theorem okX4_wipe {l : Launch} {dC : Nat → ClassId} {dI : Nat → Nat → Nat} {cI cC cZ : ClassId} (a_t a_t_text a_t_paper a_t_now a_t_trial a_t_diary a_t_kept a_t_isKept a_t_seenAt a_t_worth a_t_readPaper a_t_read : Nat) (s_t : Int32 × Int32 × Int32 × Int32 × Int32 × Int32 × Int32 × Int32 × Int32 × Int64) (res : Int32 × (Int32 × Int32 × Int32 × Int32 × Int32 × Int32 × Int32 × Int32 × Int32 × Int64)) (hM : mX4_wipe s_t = some res) : Mu l yX4_wipe cX4_wipe 2 (some .int) 0 0 (dC, dI) cI cC cZ [(a_t, .inr (4, [.ref a_t_text, .int s_t.1, .int s_t.2.1, .ref a_t_paper, .ref a_t_now, .ref a_t_trial, .ref a_t_diary, .int s_t.2.2.1, .int s_t.2.2.2.1, .ref a_t_kept, .ref a_t_isKept, .ref a_t_seenAt, .int s_t.2.2.2.2.1, .long s_t.2.2.2.2.2.2.2.2.2, .ref a_t_worth, .int s_t.2.2.2.2.2.1, .int s_t.2.2.2.2.2.2.1, .ref a_t_readPaper, .ref a_t_read, .int s_t.2.2.2.2.2.2.2.1, .int s_t.2.2.2.2.2.2.2.2.1]))] [(a_t, .inr (4, [.ref a_t_text, .int res.2.1, .int res.2.2.1, .ref a_t_paper, .ref a_t_now, .ref a_t_trial, .ref a_t_diary, .int res.2.2.2.1, .int res.2.2.2.2.1, .ref a_t_kept, .ref a_t_isKept, .ref a_t_seenAt, .int res.2.2.2.2.2.1, .long res.2.2.2.2.2.2.2.2.2.2, .ref a_t_worth, .int res.2.2.2.2.2.2.1, .int res.2.2.2.2.2.2.2.1, .ref a_t_readPaper, .ref a_t_read, .int res.2.2.2.2.2.2.2.2.1, .int res.2.2.2.2.2.2.2.2.2.1]))] [.ref a_t] (some (.int res.1)) := by
  refine Mu.ofI (by decide) (Nat.le_of_ble_eq_true rfl) [(0, .ref a_t)] rfl ?_
  intro p e s m args below meth c ls Q A hx hb hml hown hU hE hP hD hS hA rt hl
  have hown : s.vm.findClass RX4 = some m.cls := hown
  unfold mX4_wipe at hM
  refine lv_aload_n hx hb dX4_wipe_0 rfl (lv_at hl 0 rfl) ?_
  refine va_get (D := (dC, dI)) (ci := 4) (v := .int s_t.1) (C := RX4) (T := TX4) (N := 21) hx hb hU inlX4 hown hE.1 hP 0 rfl rfl 1 (by decide) (hU _ u_5_17) (fun _ h9 => h9) rfl dX4_wipe_1 ?_
  refine lv_istore_n (lv' := [(1, .int s_t.1), (0, .ref a_t)]) hx hb dX4_wipe_4 rfl hl (by decide) rfl (fun ls hl => ?_)
  refine lv_aload_n hx hb dX4_wipe_5 rfl (lv_at hl 1 rfl) ?_
  refine lv_iconst (v := (0 : Int32)) hx hb dX4_wipe_6 (by decide) ?_
  refine va_put (D := (dC, dI)) (ci := 4) (v := .int (0 : Int32)) (ty := .int) (C := RX4) (T := TX4) (N := 21) hx hb hU inlX4 tyX4 tyX4_ok nmX4 hown hE.1 hP hD hS 0 rfl rfl 1 (by decide) (hU _ u_5_17) (fun _ h9 => h9) rfl (tyX4_ok 1 (by decide)) rfl rfl (Nat.le_of_ble_eq_true rfl) dX4_wipe_7 (fun H locs hP hD hS => ?_)
  have hP : va_P (dC, dI) vwCl [(a_t, .inr (4, [.ref a_t_text, .int (0 : Int32), .int s_t.2.1, .ref a_t_paper, .ref a_t_now, .ref a_t_trial, .ref a_t_diary, .int s_t.2.2.1, .int s_t.2.2.2.1, .ref a_t_kept, .ref a_t_isKept, .ref a_t_seenAt, .int s_t.2.2.2.2.1, .long s_t.2.2.2.2.2.2.2.2.2, .ref a_t_worth, .int s_t.2.2.2.2.2.1, .int s_t.2.2.2.2.2.2.1, .ref a_t_readPaper, .ref a_t_read, .int s_t.2.2.2.2.2.2.2.1, .int s_t.2.2.2.2.2.2.2.2.1]))] H := hP
  have hD : va_D A [(a_t, .inr (4, [.ref a_t_text, .int (0 : Int32), .int s_t.2.1, .ref a_t_paper, .ref a_t_now, .ref a_t_trial, .ref a_t_diary, .int s_t.2.2.1, .int s_t.2.2.2.1, .ref a_t_kept, .ref a_t_isKept, .ref a_t_seenAt, .int s_t.2.2.2.2.1, .long s_t.2.2.2.2.2.2.2.2.2, .ref a_t_worth, .int s_t.2.2.2.2.2.1, .int s_t.2.2.2.2.2.2.1, .ref a_t_readPaper, .ref a_t_read, .int s_t.2.2.2.2.2.2.2.1, .int s_t.2.2.2.2.2.2.2.2.1]))] := hD
  refine lv_iload_n hx hb dX4_wipe_10 rfl (lv_at hl 0 rfl) ?_
  cases hM
  exact rt _ _ _ _ _ hP hS dX4_wipe_11 rfl
noncomputable def mX4_withdraw (s_t : Int32 × Int32 × Int32 × Int32 × Int32 × Int32 × Int32 × Int32 × Int32 × Int64) (s_t_now : Nat → Int32) (s_t_diary : Nat → Int32) (v1 : Int32) : Option (Int32 × (Int32 × Int32 × Int32 × Int32 × Int32 × Int32 × Int32 × Int32 × Int32 × Int64) × (Nat → Int32) × (Nat → Int32)) := (mX4_isRoute s_t_now v1).bind (fun x2 => (if x2 = true then (mX4_note s_t s_t_now s_t_diary).bind (fun x11 => (mX4_takeRoute s_t_now v1).bind (fun x19 => rd x19 66 (41 : Int32) (fun x28 => some (x28, x11.1, x19, x11.2)))) else some ((-1 : Int32), s_t, s_t_now, s_t_diary)))
set_option maxHeartbeats 4000000 in
set_option maxRecDepth 100000 in
theorem okX4_withdraw {l : Launch} {dC : Nat → ClassId} {dI : Nat → Nat → Nat} {cI cC cZ : ClassId} (a_t a_t_text a_t_paper a_t_now a_t_trial a_t_diary a_t_kept a_t_isKept a_t_seenAt a_t_worth a_t_readPaper a_t_read : Nat) (s_t : Int32 × Int32 × Int32 × Int32 × Int32 × Int32 × Int32 × Int32 × Int32 × Int64) (s_t_now : Nat → Int32) (s_t_diary : Nat → Int32) (v1 : Int32) (res : Int32 × (Int32 × Int32 × Int32 × Int32 × Int32 × Int32 × Int32 × Int32 × Int32 × Int64) × (Nat → Int32) × (Nat → Int32)) (hM : mX4_withdraw s_t s_t_now s_t_diary v1 = some res) : Mu l yX4_withdraw cX4_withdraw 2 (some .int) 2 46 (dC, dI) cI cC cZ [(a_t, .inr (4, [.ref a_t_text, .int s_t.1, .int s_t.2.1, .ref a_t_paper, .ref a_t_now, .ref a_t_trial, .ref a_t_diary, .int s_t.2.2.1, .int s_t.2.2.2.1, .ref a_t_kept, .ref a_t_isKept, .ref a_t_seenAt, .int s_t.2.2.2.2.1, .long s_t.2.2.2.2.2.2.2.2.2, .ref a_t_worth, .int s_t.2.2.2.2.2.1, .int s_t.2.2.2.2.2.2.1, .ref a_t_readPaper, .ref a_t_read, .int s_t.2.2.2.2.2.2.2.1, .int s_t.2.2.2.2.2.2.2.2.1])), (a_t_now, .inl (cI, 66, .inl s_t_now)), (a_t_diary, .inl (cI, 924, .inl s_t_diary))] [(a_t, .inr (4, [.ref a_t_text, .int res.2.1.1, .int res.2.1.2.1, .ref a_t_paper, .ref a_t_now, .ref a_t_trial, .ref a_t_diary, .int res.2.1.2.2.1, .int res.2.1.2.2.2.1, .ref a_t_kept, .ref a_t_isKept, .ref a_t_seenAt, .int res.2.1.2.2.2.2.1, .long res.2.1.2.2.2.2.2.2.2.2.2, .ref a_t_worth, .int res.2.1.2.2.2.2.2.1, .int res.2.1.2.2.2.2.2.2.1, .ref a_t_readPaper, .ref a_t_read, .int res.2.1.2.2.2.2.2.2.2.1, .int res.2.1.2.2.2.2.2.2.2.2.1])), (a_t_now, .inl (cI, 66, .inl res.2.2.1)), (a_t_diary, .inl (cI, 924, .inl res.2.2.2))] [.ref a_t, .int v1] (some (.int res.1)) := by
  refine Mu.ofI (by decide) (Nat.le_of_ble_eq_true rfl) [(0, .ref a_t), (1, .int v1)] rfl ?_
  intro p e s m args below meth c ls Q A hx hb hml hown hU hE hP hD hS hA rt hl
  have hown : s.vm.findClass RX4 = some m.cls := hown
  unfold mX4_withdraw at hM
  refine lv_aload_n hx hb dX4_withdraw_0 rfl (lv_at hl 0 rfl) ?_
  refine lv_iload_n hx hb dX4_withdraw_1 rfl (lv_at hl 1 rfl) ?_
  obtain ⟨x2, h2, hM⟩ := bind_e hM
  refine rdV (As := [.int v1]) (rest := []) (st2 := [.int (b2i x2)]) ⟨hx, hb, hml, hown, hU⟩ hE (okX4_isRoute a_t a_t_text a_t_paper a_t_now a_t_trial a_t_diary a_t_kept a_t_isKept a_t_seenAt a_t_worth a_t_readPaper a_t_read s_t s_t_now v1 x2 h2) lk_X4_174 (hP.sub [0, 1] rfl) rfl rfl rfl hl.1 rfl (Nat.le_of_ble_eq_true rfl) ⟨Nat.le_of_ble_eq_true rfl, Nat.le_of_ble_eq_true rfl⟩ dX4_withdraw_2 ⟨Nat.le_refl _, Nat.le_refl _⟩ rfl ?_
  refine lv_if_ne (tgt := 10) hx hb dX4_withdraw_5 (by decide) (fun c5 => ?_) (fun c5 => ?_)
  · have hM := ite_t (b2i_ne0 c5) hM
    refine lv_aload_n hx hb dX4_withdraw_10 rfl (lv_at hl 0 rfl) ?_
    obtain ⟨x11, h11, hM⟩ := bind_e hM
    refine muV (As := []) (rest := []) (st2 := []) (nw := [(a_t, .inr (4, [.ref a_t_text, .int x11.1.1, .int x11.1.2.1, .ref a_t_paper, .ref a_t_now, .ref a_t_trial, .ref a_t_diary, .int x11.1.2.2.1, .int x11.1.2.2.2.1, .ref a_t_kept, .ref a_t_isKept, .ref a_t_seenAt, .int x11.1.2.2.2.2.1, .long x11.1.2.2.2.2.2.2.2.2.2, .ref a_t_worth, .int x11.1.2.2.2.2.2.1, .int x11.1.2.2.2.2.2.2.1, .ref a_t_readPaper, .ref a_t_read, .int x11.1.2.2.2.2.2.2.2.1, .int x11.1.2.2.2.2.2.2.2.2.1])), (a_t_now, .inl (cI, 66, .inl s_t_now)), (a_t_diary, .inl (cI, 924, .inl x11.2))]) ⟨hx, hb, hml, hown, hU⟩ hE (okX4_note a_t a_t_text a_t_paper a_t_now a_t_trial a_t_diary a_t_kept a_t_isKept a_t_seenAt a_t_worth a_t_readPaper a_t_read s_t s_t_now s_t_diary x11 h11) lk_X4_188 hP hD hS hA [0, 1, 2] rfl rfl rfl rfl rfl rfl hl.1 rfl (Nat.le_of_ble_eq_true rfl) ⟨Nat.le_of_ble_eq_true rfl, Nat.le_of_ble_eq_true rfl⟩ dX4_withdraw_11 ⟨Nat.le_refl _, Nat.le_refl _⟩ rfl rfl rfl rfl (fun H locs hP hD hS => ?_)
    refine lv_aload_n hx hb dX4_withdraw_14 rfl (lv_at hl 0 rfl) ?_
    refine va_get (D := (dC, dI)) (ci := 4) (v := .ref a_t_now) (C := RX4) (T := TX4) (N := 21) hx hb hU inlX4 hown hE.1 hP 0 rfl rfl 4 (by decide) (hU _ u_4_15) (fun _ h9 => h9) rfl dX4_withdraw_15 ?_
    refine lv_iload_n hx hb dX4_withdraw_18 rfl (lv_at hl 1 rfl) ?_
    obtain ⟨x19, h19, hM⟩ := bind_e hM
    refine muS (As := [.ref a_t_now, .int v1]) (rest := []) (st2 := []) (nw := [(a_t, .inr (4, [.ref a_t_text, .int x11.1.1, .int x11.1.2.1, .ref a_t_paper, .ref a_t_now, .ref a_t_trial, .ref a_t_diary, .int x11.1.2.2.1, .int x11.1.2.2.2.1, .ref a_t_kept, .ref a_t_isKept, .ref a_t_seenAt, .int x11.1.2.2.2.2.1, .long x11.1.2.2.2.2.2.2.2.2.2, .ref a_t_worth, .int x11.1.2.2.2.2.2.1, .int x11.1.2.2.2.2.2.2.1, .ref a_t_readPaper, .ref a_t_read, .int x11.1.2.2.2.2.2.2.2.1, .int x11.1.2.2.2.2.2.2.2.2.1])), (a_t_now, .inl (cI, 66, .inl x19)), (a_t_diary, .inl (cI, 924, .inl x11.2))]) ⟨hx, hb, hml, hown, hU⟩ hE (okX4_takeRoute a_t_now s_t_now v1 x19 h19) lk_X4_191 hP hD hS hA [1] rfl rfl rfl rfl hl.1 rfl (Nat.le_of_ble_eq_true rfl) ⟨Nat.le_of_ble_eq_true rfl, Nat.le_of_ble_eq_true rfl⟩ dX4_withdraw_19 ⟨Nat.le_refl _, Nat.le_refl _⟩ rfl rfl rfl rfl (fun H locs hP hD hS => ?_)
    refine lv_aload_n hx hb dX4_withdraw_22 rfl (lv_at hl 0 rfl) ?_
    refine va_get (D := (dC, dI)) (ci := 4) (v := .ref a_t_now) (C := RX4) (T := TX4) (N := 21) hx hb hU inlX4 hown hE.1 hP 0 rfl rfl 4 (by decide) (hU _ u_4_15) (fun _ h9 => h9) rfl dX4_withdraw_23 ?_
    refine lv_bipush (v := (41 : Int32)) hx hb dX4_withdraw_26 (by decide) ?_
    obtain ⟨g28, hM⟩ := rd_e hM
    refine va_iald hx hb hE.1 hP 1 0 rfl rfl g28 dX4_withdraw_28 ?_
    cases hM
    exact rt _ _ _ _ _ hP hS dX4_withdraw_29 rfl
  · have hM := ite_f (b2i_eq0 c5) hM
    refine lv_iconst (v := (-1 : Int32)) hx hb dX4_withdraw_8 (by decide) ?_
    cases hM
    exact rt _ _ _ _ _ hP hS dX4_withdraw_9 rfl
noncomputable def mX4_write (s_t : Int32 × Int32 × Int32 × Int32 × Int32 × Int32 × Int32 × Int32 × Int32 × Int64) (s_t_text : Nat → Int32) (v1 : Int32) : Option (Int32 × (Int32 × Int32 × Int32 × Int32 × Int32 × Int32 × Int32 × Int32 × Int32 × Int64) × (Nat → Int32)) := (mX4_in (v1.toInt64) (0 : Int64) (255 : Int64)).bind (fun x6 => (if x6 = true then (if s_t.1 = (99 : Int32) then some ((-4 : Int32), s_t, s_t_text) else wr s_t_text 99 s_t.1 v1 (fun x36 => some ((s_t.1 + (1 : Int32)), ((s_t.1 + (1 : Int32)), s_t.2.1, s_t.2.2.1, s_t.2.2.2.1, s_t.2.2.2.2.1, s_t.2.2.2.2.2.1, s_t.2.2.2.2.2.2.1, s_t.2.2.2.2.2.2.2.1, s_t.2.2.2.2.2.2.2.2.1, s_t.2.2.2.2.2.2.2.2.2), x36))) else some ((-2 : Int32), s_t, s_t_text)))
set_option maxHeartbeats 4000000 in
set_option maxRecDepth 100000 in
theorem okX4_write {l : Launch} {dC : Nat → ClassId} {dI : Nat → Nat → Nat} {cI cC cZ : ClassId} (a_t a_t_text a_t_paper a_t_now a_t_trial a_t_diary a_t_kept a_t_isKept a_t_seenAt a_t_worth a_t_readPaper a_t_read : Nat) (s_t : Int32 × Int32 × Int32 × Int32 × Int32 × Int32 × Int32 × Int32 × Int32 × Int64) (s_t_text : Nat → Int32) (v1 : Int32) (res : Int32 × (Int32 × Int32 × Int32 × Int32 × Int32 × Int32 × Int32 × Int32 × Int32 × Int64) × (Nat → Int32)) (hM : mX4_write s_t s_t_text v1 = some res) : Mu l yX4_write cX4_write 2 (some .int) 1 25 (dC, dI) cI cC cZ [(a_t, .inr (4, [.ref a_t_text, .int s_t.1, .int s_t.2.1, .ref a_t_paper, .ref a_t_now, .ref a_t_trial, .ref a_t_diary, .int s_t.2.2.1, .int s_t.2.2.2.1, .ref a_t_kept, .ref a_t_isKept, .ref a_t_seenAt, .int s_t.2.2.2.2.1, .long s_t.2.2.2.2.2.2.2.2.2, .ref a_t_worth, .int s_t.2.2.2.2.2.1, .int s_t.2.2.2.2.2.2.1, .ref a_t_readPaper, .ref a_t_read, .int s_t.2.2.2.2.2.2.2.1, .int s_t.2.2.2.2.2.2.2.2.1])), (a_t_text, .inl (cI, 99, .inl s_t_text))] [(a_t, .inr (4, [.ref a_t_text, .int res.2.1.1, .int res.2.1.2.1, .ref a_t_paper, .ref a_t_now, .ref a_t_trial, .ref a_t_diary, .int res.2.1.2.2.1, .int res.2.1.2.2.2.1, .ref a_t_kept, .ref a_t_isKept, .ref a_t_seenAt, .int res.2.1.2.2.2.2.1, .long res.2.1.2.2.2.2.2.2.2.2.2, .ref a_t_worth, .int res.2.1.2.2.2.2.2.1, .int res.2.1.2.2.2.2.2.2.1, .ref a_t_readPaper, .ref a_t_read, .int res.2.1.2.2.2.2.2.2.2.1, .int res.2.1.2.2.2.2.2.2.2.2.1])), (a_t_text, .inl (cI, 99, .inl res.2.2))] [.ref a_t, .int v1] (some (.int res.1)) := by
  refine Mu.ofI (by decide) (Nat.le_of_ble_eq_true rfl) [(0, .ref a_t), (1, .int v1)] rfl ?_
  intro p e s m args below meth c ls Q A hx hb hml hown hU hE hP hD hS hA rt hl
  have hown : s.vm.findClass RX4 = some m.cls := hown
  unfold mX4_write at hM
  refine lv_iload_n hx hb dX4_write_0 rfl (lv_at hl 1 rfl) ?_
  refine lv_i2l (v := (v1.toInt64)) hx hb dX4_write_1 rfl ?_
  refine lv_lconst (v := (0 : Int64)) hx hb dX4_write_2 (by decide) ?_
  refine lv_ldc2 hx hb hown (hU _ u_5_16) dX4_write_3 ?_
  obtain ⟨x6, h6, hM⟩ := bind_e hM
  refine rdS (As := [.long (v1.toInt64), .long (0 : Int64), .long (255 : Int64)]) (rest := []) (st2 := [.int (b2i x6)]) ⟨hx, hb, hml, hown, hU⟩ hE (okX4_in (v1.toInt64) (0 : Int64) (255 : Int64) x6 h6) lk_X4_50 (hP.sub [] rfl) rfl hl.1 rfl (Nat.le_of_ble_eq_true rfl) ⟨Nat.le_of_ble_eq_true rfl, Nat.le_of_ble_eq_true rfl⟩ dX4_write_6 ⟨Nat.le_refl _, Nat.le_refl _⟩ rfl ?_
  refine lv_if_ne (tgt := 15) hx hb dX4_write_9 (by decide) (fun c9 => ?_) (fun c9 => ?_)
  · have hM := ite_t (b2i_ne0 c9) hM
    refine lv_aload_n hx hb dX4_write_15 rfl (lv_at hl 0 rfl) ?_
    refine va_get (D := (dC, dI)) (ci := 4) (v := .int s_t.1) (C := RX4) (T := TX4) (N := 21) hx hb hU inlX4 hown hE.1 hP 0 rfl rfl 1 (by decide) (hU _ u_5_17) (fun _ h9 => h9) rfl dX4_write_16 ?_
    refine lv_bipush (v := (99 : Int32)) hx hb dX4_write_19 (by decide) ?_
    refine lv_icmp_ne (tgt := 27) hx hb dX4_write_21 (by decide) (fun c21 => ?_) (fun c21 => ?_)
    · have hM := ite_f c21 hM
      refine lv_aload_n hx hb dX4_write_27 rfl (lv_at hl 0 rfl) ?_
      refine va_get (D := (dC, dI)) (ci := 4) (v := .ref a_t_text) (C := RX4) (T := TX4) (N := 21) hx hb hU inlX4 hown hE.1 hP 0 rfl rfl 0 (by decide) (hU _ u_4_13) (fun _ h9 => h9) rfl dX4_write_28 ?_
      refine lv_aload_n hx hb dX4_write_31 rfl (lv_at hl 0 rfl) ?_
      refine va_get (D := (dC, dI)) (ci := 4) (v := .int s_t.1) (C := RX4) (T := TX4) (N := 21) hx hb hU inlX4 hown hE.1 hP 0 rfl rfl 1 (by decide) (hU _ u_5_17) (fun _ h9 => h9) rfl dX4_write_32 ?_
      refine lv_iload_n hx hb dX4_write_35 rfl (lv_at hl 1 rfl) ?_
      obtain ⟨g36, hM⟩ := wr_e hM
      refine va_iast hx hb hE.1 hP hD hS 1 0 rfl rfl g36 dX4_write_36 (fun H locs hP hD hS => ?_)
      have hP : va_P (dC, dI) vwCl [(a_t, .inr (4, [.ref a_t_text, .int s_t.1, .int s_t.2.1, .ref a_t_paper, .ref a_t_now, .ref a_t_trial, .ref a_t_diary, .int s_t.2.2.1, .int s_t.2.2.2.1, .ref a_t_kept, .ref a_t_isKept, .ref a_t_seenAt, .int s_t.2.2.2.2.1, .long s_t.2.2.2.2.2.2.2.2.2, .ref a_t_worth, .int s_t.2.2.2.2.2.1, .int s_t.2.2.2.2.2.2.1, .ref a_t_readPaper, .ref a_t_read, .int s_t.2.2.2.2.2.2.2.1, .int s_t.2.2.2.2.2.2.2.2.1])), (a_t_text, .inl (cI, 99, .inl (upd s_t_text s_t.1.toNatClampNeg v1)))] H := hP
      have hD : va_D A [(a_t, .inr (4, [.ref a_t_text, .int s_t.1, .int s_t.2.1, .ref a_t_paper, .ref a_t_now, .ref a_t_trial, .ref a_t_diary, .int s_t.2.2.1, .int s_t.2.2.2.1, .ref a_t_kept, .ref a_t_isKept, .ref a_t_seenAt, .int s_t.2.2.2.2.1, .long s_t.2.2.2.2.2.2.2.2.2, .ref a_t_worth, .int s_t.2.2.2.2.2.1, .int s_t.2.2.2.2.2.2.1, .ref a_t_readPaper, .ref a_t_read, .int s_t.2.2.2.2.2.2.2.1, .int s_t.2.2.2.2.2.2.2.2.1])), (a_t_text, .inl (cI, 99, .inl (upd s_t_text s_t.1.toNatClampNeg v1)))] := hD
      refine lv_aload_n hx hb dX4_write_37 rfl (lv_at hl 0 rfl) ?_
      refine lv_dup hx hb dX4_write_38 rfl ?_
      refine va_get (D := (dC, dI)) (ci := 4) (v := .int s_t.1) (C := RX4) (T := TX4) (N := 21) hx hb hU inlX4 hown hE.1 hP 0 rfl rfl 1 (by decide) (hU _ u_5_17) (fun _ h9 => h9) rfl dX4_write_39 ?_
      refine lv_iconst (v := (1 : Int32)) hx hb dX4_write_42 (by decide) ?_
      refine lv_iadd hx hb dX4_write_43 ?_
      refine va_put (D := (dC, dI)) (ci := 4) (v := .int (s_t.1 + (1 : Int32))) (ty := .int) (C := RX4) (T := TX4) (N := 21) hx hb hU inlX4 tyX4 tyX4_ok nmX4 hown hE.1 hP hD hS 0 rfl rfl 1 (by decide) (hU _ u_5_17) (fun _ h9 => h9) rfl (tyX4_ok 1 (by decide)) rfl rfl (Nat.le_of_ble_eq_true rfl) dX4_write_44 (fun H locs hP hD hS => ?_)
      have hP : va_P (dC, dI) vwCl [(a_t, .inr (4, [.ref a_t_text, .int (s_t.1 + (1 : Int32)), .int s_t.2.1, .ref a_t_paper, .ref a_t_now, .ref a_t_trial, .ref a_t_diary, .int s_t.2.2.1, .int s_t.2.2.2.1, .ref a_t_kept, .ref a_t_isKept, .ref a_t_seenAt, .int s_t.2.2.2.2.1, .long s_t.2.2.2.2.2.2.2.2.2, .ref a_t_worth, .int s_t.2.2.2.2.2.1, .int s_t.2.2.2.2.2.2.1, .ref a_t_readPaper, .ref a_t_read, .int s_t.2.2.2.2.2.2.2.1, .int s_t.2.2.2.2.2.2.2.2.1])), (a_t_text, .inl (cI, 99, .inl (upd s_t_text s_t.1.toNatClampNeg v1)))] H := hP
      have hD : va_D A [(a_t, .inr (4, [.ref a_t_text, .int (s_t.1 + (1 : Int32)), .int s_t.2.1, .ref a_t_paper, .ref a_t_now, .ref a_t_trial, .ref a_t_diary, .int s_t.2.2.1, .int s_t.2.2.2.1, .ref a_t_kept, .ref a_t_isKept, .ref a_t_seenAt, .int s_t.2.2.2.2.1, .long s_t.2.2.2.2.2.2.2.2.2, .ref a_t_worth, .int s_t.2.2.2.2.2.1, .int s_t.2.2.2.2.2.2.1, .ref a_t_readPaper, .ref a_t_read, .int s_t.2.2.2.2.2.2.2.1, .int s_t.2.2.2.2.2.2.2.2.1])), (a_t_text, .inl (cI, 99, .inl (upd s_t_text s_t.1.toNatClampNeg v1)))] := hD
      refine lv_aload_n hx hb dX4_write_47 rfl (lv_at hl 0 rfl) ?_
      refine va_get (D := (dC, dI)) (ci := 4) (v := .int (s_t.1 + (1 : Int32))) (C := RX4) (T := TX4) (N := 21) hx hb hU inlX4 hown hE.1 hP 0 rfl rfl 1 (by decide) (hU _ u_5_17) (fun _ h9 => h9) rfl dX4_write_48 ?_
      cases hM
      exact rt _ _ _ _ _ hP hS dX4_write_51 rfl
    · have hM := ite_t c21 hM
      refine lv_bipush (v := (-4 : Int32)) hx hb dX4_write_24 (by decide) ?_
      cases hM
      exact rt _ _ _ _ _ hP hS dX4_write_26 rfl
  · have hM := ite_f (b2i_eq0 c9) hM
    refine lv_bipush (v := (-2 : Int32)) hx hb dX4_write_12 (by decide) ?_
    cases hM
    exact rt _ _ _ _ _ hP hS dX4_write_14 rfl
