noncomputable def mX4_has (v0 : Int32) (v1 : Int32) : Option (Bool) := (if ((v0 >>> (v1 &&& 31)) &&& (1 : Int32)) = (1 : Int32) then some (true) else some (false))
set_option maxHeartbeats 4000000 in
set_option maxRecDepth 100000 in
theorem okX4_has {l : Launch} {dC : Nat → ClassId} {dI : Nat → Nat → Nat} {cI cC cZ : ClassId} (v0 : Int32) (v1 : Int32) (res : Bool) (hM : mX4_has v0 v1 = some res) : Rd l yX4_has cX4_has 2 (some .boolean) 0 0 (dC, dI) cI cC cZ [] [.int v0, .int v1] (some (.int (b2i res))) := by
  refine Rd.ofZ (by decide) (Nat.le_of_ble_eq_true rfl) [(0, .int v0), (1, .int v1)] rfl ?_
  intro p e s m args below meth c ls Q hx hb hml hown hU hE hP rt hl
  have hown : s.vm.findClass RX4 = some m.cls := hown
  unfold mX4_has at hM
  refine lv_iload_n hx hb dX4_has_0 rfl (lv_at hl 0 rfl) ?_
  refine lv_iload_n hx hb dX4_has_1 rfl (lv_at hl 1 rfl) ?_
  refine lv_ishr hx hb dX4_has_2 ?_
  refine lv_iconst (v := (1 : Int32)) hx hb dX4_has_3 (by decide) ?_
  refine lv_iand hx hb dX4_has_4 ?_
  refine lv_iconst (v := (1 : Int32)) hx hb dX4_has_5 (by decide) ?_
  refine lv_icmp_ne (tgt := 13) hx hb dX4_has_6 (by decide) (fun c6 => ?_) (fun c6 => ?_)
  · have hM := ite_f c6 hM
    refine lv_iconst (v := (0 : Int32)) hx hb dX4_has_13 (by decide) ?_
    cases hM
    exact rt false _ _ dX4_has_14 rfl
  · have hM := ite_t c6 hM
    refine lv_iconst (v := (1 : Int32)) hx hb dX4_has_9 (by decide) ?_
    refine lv_goto (tgt := 14) hx hb dX4_has_10 (by decide) ?_
    cases hM
    exact rt true _ _ dX4_has_14 rfl
noncomputable def mX4_sizeOf (v0 : Int32) : Option (Int32) := some (((32 : Int32) >>> (v0 &&& 31)))
set_option maxHeartbeats 4000000 in
set_option maxRecDepth 100000 in
theorem okX4_sizeOf {l : Launch} {dC : Nat → ClassId} {dI : Nat → Nat → Nat} {cI cC cZ : ClassId} (v0 : Int32) (res : Int32) (hM : mX4_sizeOf v0 = some res) : Rd l yX4_sizeOf cX4_sizeOf 1 (some .int) 0 0 (dC, dI) cI cC cZ [] [.int v0] (some (.int res)) := by
  refine Rd.ofI (by decide) (Nat.le_of_ble_eq_true rfl) [(0, .int v0)] rfl ?_
  intro p e s m args below meth c ls Q hx hb hml hown hU hE hP rt hl
  have hown : s.vm.findClass RX4 = some m.cls := hown
  unfold mX4_sizeOf at hM
  refine lv_bipush (v := (32 : Int32)) hx hb dX4_sizeOf_0 (by decide) ?_
  refine lv_iload_n hx hb dX4_sizeOf_2 rfl (lv_at hl 0 rfl) ?_
  refine lv_ishr hx hb dX4_sizeOf_3 ?_
  cases hM
  exact rt _ _ _ dX4_sizeOf_4 rfl
noncomputable def mX4_isWithin (v0 : Int32) (v1 : Int32) (v2 : Int32) (v3 : Int32) : Option (Bool) := (if v1 < v3 then some (false) else (mX4_sizeOf v3).bind (fun x7 => dv v0 x7 (fun x10 => (mX4_sizeOf v3).bind (fun x13 => dv v2 x13 (fun x16 => (if x10 = x16 then some (true) else some (false)))))))
set_option maxHeartbeats 4000000 in
set_option maxRecDepth 100000 in
theorem okX4_isWithin {l : Launch} {dC : Nat → ClassId} {dI : Nat → Nat → Nat} {cI cC cZ : ClassId} (v0 : Int32) (v1 : Int32) (v2 : Int32) (v3 : Int32) (res : Bool) (hM : mX4_isWithin v0 v1 v2 v3 = some res) : Rd l yX4_isWithin cX4_isWithin 4 (some .boolean) 1 20 (dC, dI) cI cC cZ [] [.int v0, .int v1, .int v2, .int v3] (some (.int (b2i res))) := by
  refine Rd.ofZ (by decide) (Nat.le_of_ble_eq_true rfl) [(0, .int v0), (1, .int v1), (2, .int v2), (3, .int v3)] rfl ?_
  intro p e s m args below meth c ls Q hx hb hml hown hU hE hP rt hl
  have hown : s.vm.findClass RX4 = some m.cls := hown
  unfold mX4_isWithin at hM
  refine lv_iload_n hx hb dX4_isWithin_0 rfl (lv_at hl 1 rfl) ?_
  refine lv_iload_n hx hb dX4_isWithin_1 rfl (lv_at hl 3 rfl) ?_
  refine lv_icmp_lt (tgt := 24) hx hb dX4_isWithin_2 (by decide) (fun c2 => ?_) (fun c2 => ?_)
  · have hM := ite_t c2 hM
    refine lv_iconst (v := (0 : Int32)) hx hb dX4_isWithin_24 (by decide) ?_
    cases hM
    exact rt false _ _ dX4_isWithin_25 rfl
  · have hM := ite_f c2 hM
    refine lv_iload_n hx hb dX4_isWithin_5 rfl (lv_at hl 0 rfl) ?_
    refine lv_iload_n hx hb dX4_isWithin_6 rfl (lv_at hl 3 rfl) ?_
    obtain ⟨x7, h7, hM⟩ := bind_e hM
    refine rdS (As := [.int v3]) (rest := [.int v0]) (st2 := [.int x7, .int v0]) ⟨hx, hb, hml, hown, hU⟩ hE (okX4_sizeOf v3 x7 h7) lk_X4_56 (hP.sub [] rfl) rfl hl.1 rfl (Nat.le_of_ble_eq_true rfl) ⟨Nat.le_of_ble_eq_true rfl, Nat.le_of_ble_eq_true rfl⟩ dX4_isWithin_7 ⟨Nat.le_refl _, Nat.le_refl _⟩ rfl ?_
    obtain ⟨g10, hM⟩ := dv_e hM
    refine lv_idiv hx hb dX4_isWithin_10 g10 ?_
    refine lv_iload_n hx hb dX4_isWithin_11 rfl (lv_at hl 2 rfl) ?_
    refine lv_iload_n hx hb dX4_isWithin_12 rfl (lv_at hl 3 rfl) ?_
    obtain ⟨x13, h13, hM⟩ := bind_e hM
    refine rdS (As := [.int v3]) (rest := [.int v2, .int (v0 / x7)]) (st2 := [.int x13, .int v2, .int (v0 / x7)]) ⟨hx, hb, hml, hown, hU⟩ hE (okX4_sizeOf v3 x13 h13) lk_X4_56 (hP.sub [] rfl) rfl hl.1 rfl (Nat.le_of_ble_eq_true rfl) ⟨Nat.le_of_ble_eq_true rfl, Nat.le_of_ble_eq_true rfl⟩ dX4_isWithin_13 ⟨Nat.le_refl _, Nat.le_refl _⟩ rfl ?_
    obtain ⟨g16, hM⟩ := dv_e hM
    refine lv_idiv hx hb dX4_isWithin_16 g16 ?_
    refine lv_icmp_ne (tgt := 24) hx hb dX4_isWithin_17 (by decide) (fun c17 => ?_) (fun c17 => ?_)
    · have hM := ite_f c17 hM
      refine lv_iconst (v := (0 : Int32)) hx hb dX4_isWithin_24 (by decide) ?_
      cases hM
      exact rt false _ _ dX4_isWithin_25 rfl
    · have hM := ite_t c17 hM
      refine lv_iconst (v := (1 : Int32)) hx hb dX4_isWithin_20 (by decide) ?_
      refine lv_goto (tgt := 25) hx hb dX4_isWithin_21 (by decide) ?_
      cases hM
      exact rt true _ _ dX4_isWithin_25 rfl
noncomputable def mX4_stands_b5 (s_t_paper : Nat → Int32) (s_q1 : Nat → Int32) : Nat → Bool → Int32 → Option (Bool)
  | 0, _, _ => none
  | n + 1, v3, v4 => (if v4 ≤ 0 then some (v3) else (if v3 = true then rd s_t_paper 24 ((4 : Int32) * v4) (fun x27 => rd s_q1 66 (63 : Int32) (fun x34 => (mX4_has x34 v4).bind (fun x37 => (if x37 = true then rd s_t_paper 24 ((4 : Int32) * v4) (fun x115 => mX4_stands_b5 s_t_paper s_q1 n false x115) else rd s_q1 66 (65 : Int32) (fun x46 => rd s_t_paper 24 (((4 : Int32) * v4) + (3 : Int32)) (fun x55 => (if x55 < x46 then rd s_t_paper 24 ((4 : Int32) * v4) (fun x115 => mX4_stands_b5 s_t_paper s_q1 n false x115) else rd s_t_paper 24 (((4 : Int32) * v4) + (1 : Int32)) (fun x67 => rd s_t_paper 24 (((4 : Int32) * v4) + (2 : Int32)) (fun x76 => rd s_t_paper 24 (((4 : Int32) * x27) + (1 : Int32)) (fun x85 => rd s_t_paper 24 (((4 : Int32) * x27) + (2 : Int32)) (fun x94 => (mX4_isWithin x67 x76 x85 x94).bind (fun x95 => (if x95 = true then rd s_t_paper 24 ((4 : Int32) * v4) (fun x115 => mX4_stands_b5 s_t_paper s_q1 n true x115) else rd s_t_paper 24 ((4 : Int32) * v4) (fun x115 => mX4_stands_b5 s_t_paper s_q1 n false x115)))))))))))))) else some (v3)))
noncomputable def mX4_stands (s_t_paper : Nat → Int32) (s_q1 : Nat → Int32) (v2 : Int32) : Option (Bool) := mX4_stands_b5 s_t_paper s_q1 FU true v2
set_option maxHeartbeats 4000000 in
set_option maxRecDepth 100000 in
theorem okX4_stands {l : Launch} {dC : Nat → ClassId} {dI : Nat → Nat → Nat} {cI cC cZ : ClassId} (a_t a_t_text a_t_paper a_t_now a_t_trial a_t_diary a_t_kept a_t_isKept a_t_seenAt a_t_worth a_t_readPaper a_t_read a_q1 : Nat) (s_t : Int32 × Int32 × Int32 × Int32 × Int32 × Int32 × Int32 × Int32 × Int32 × Int64) (s_t_paper : Nat → Int32) (s_q1 : Nat → Int32) (v2 : Int32) (res : Bool) (hM : mX4_stands s_t_paper s_q1 v2 = some res) : Rd l yX4_stands cX4_stands 7 (some .boolean) 2 43 (dC, dI) cI cC cZ [(a_t, .inr (4, [.ref a_t_text, .int s_t.1, .int s_t.2.1, .ref a_t_paper, .ref a_t_now, .ref a_t_trial, .ref a_t_diary, .int s_t.2.2.1, .int s_t.2.2.2.1, .ref a_t_kept, .ref a_t_isKept, .ref a_t_seenAt, .int s_t.2.2.2.2.1, .long s_t.2.2.2.2.2.2.2.2.2, .ref a_t_worth, .int s_t.2.2.2.2.2.1, .int s_t.2.2.2.2.2.2.1, .ref a_t_readPaper, .ref a_t_read, .int s_t.2.2.2.2.2.2.2.1, .int s_t.2.2.2.2.2.2.2.2.1])), (a_t_paper, .inl (cI, 24, .inl s_t_paper)), (a_q1, .inl (cI, 66, .inl s_q1))] [.ref a_t, .ref a_q1, .int v2] (some (.int (b2i res))) := by
  refine Rd.ofZ (by decide) (Nat.le_of_ble_eq_true rfl) [(0, .ref a_t), (1, .ref a_q1), (2, .int v2)] rfl ?_
  intro p e s m args below meth c ls Q hx hb hml hown hU hE hP rt hl
  have hown : s.vm.findClass RX4 = some m.cls := hown
  unfold mX4_stands at hM
  refine lv_iconst (v := (1 : Int32)) hx hb dX4_stands_0 (by decide) ?_
  refine lv_istore_n (lv' := [(3, .int (1 : Int32)), (0, .ref a_t), (1, .ref a_q1), (2, .int v2)]) hx hb dX4_stands_1 rfl hl (by decide) rfl (fun ls hl => ?_)
  refine lv_iload_n hx hb dX4_stands_2 rfl (lv_at hl 3 rfl) ?_
  refine lv_istore (lv' := [(4, .int v2), (3, .int (1 : Int32)), (0, .ref a_t), (1, .ref a_q1), (2, .int v2)]) hx hb dX4_stands_3 hl (by decide) rfl (fun ls hl => ?_)
  have w_5 : ∀ (n : Nat) (v3_5 : Bool) (v4_5 : Int32), mX4_stands_b5 s_t_paper s_q1 n v3_5 v4_5 = some res → ∀ (ls : Array Slot), lv_has ls 7 [(0, .ref a_t), (1, .ref a_q1), (3, .int (b2i v3_5)), (4, .int v4_5)] → W p l e (RM 2 43) s m args below meth c s.heap [] 0 0 Q (F0 m 5 ls []) := by
    intro n
    induction n with
    | zero =>
      intro v3_5 v4_5 hM
      rw [mX4_stands_b5] at hM
      cases hM
    | succ n_5 ih_5 =>
      intro v3_5 v4_5 hM ls hl
      rw [mX4_stands_b5] at hM
      refine lv_iload hx hb dX4_stands_5 (lv_at hl 3 rfl) ?_
      refine lv_if_le (tgt := 121) hx hb dX4_stands_7 (by decide) (fun c7 => ?_) (fun c7 => ?_)
      · have hM := ite_t c7 hM
        refine lv_iload_n hx hb dX4_stands_121 rfl (lv_at hl 2 rfl) ?_
        cases hM
        exact rt _ _ _ dX4_stands_122 rfl
      · have hM := ite_f c7 hM
        refine lv_iload_n hx hb dX4_stands_10 rfl (lv_at hl 2 rfl) ?_
        refine lv_if_eq (tgt := 121) hx hb dX4_stands_11 (by decide) (fun c11 => ?_) (fun c11 => ?_)
        · have hM := ite_f (b2i_eq0 c11) hM
          refine lv_iload_n hx hb dX4_stands_121 rfl (lv_at hl 2 rfl) ?_
          cases hM
          exact rt _ _ _ dX4_stands_122 rfl
        · have hM := ite_t (b2i_ne0 c11) hM
          refine lv_iconst (v := (4 : Int32)) hx hb dX4_stands_14 (by decide) ?_
          refine lv_iload hx hb dX4_stands_15 (lv_at hl 3 rfl) ?_
          refine lv_imul hx hb dX4_stands_17 ?_
          refine lv_istore (lv' := [(5, .int ((4 : Int32) * v4_5)), (0, .ref a_t), (1, .ref a_q1), (3, .int (b2i v3_5)), (4, .int v4_5)]) hx hb dX4_stands_18 hl (by decide) rfl (fun ls hl => ?_)
          refine lv_iconst (v := (4 : Int32)) hx hb dX4_stands_20 (by decide) ?_
          refine lv_aload_n hx hb dX4_stands_21 rfl (lv_at hl 1 rfl) ?_
          refine va_get (D := (dC, dI)) (ci := 4) (v := .ref a_t_paper) (C := RX4) (T := TX4) (N := 21) hx hb hU inlX4 hown hE.1 hP 0 rfl rfl 3 (by decide) (hU _ u_4_14) (fun _ h9 => h9) rfl dX4_stands_22 ?_
          refine lv_iload hx hb dX4_stands_25 (lv_at hl 0 rfl) ?_
          obtain ⟨g27, hM⟩ := rd_e hM
          refine va_iald hx hb hE.1 hP 1 0 rfl rfl g27 dX4_stands_27 ?_
          refine lv_imul hx hb dX4_stands_28 ?_
          refine lv_istore (lv' := [(6, .int ((4 : Int32) * (s_t_paper ((4 : Int32) * v4_5).toNatClampNeg))), (5, .int ((4 : Int32) * v4_5)), (0, .ref a_t), (1, .ref a_q1), (3, .int (b2i v3_5)), (4, .int v4_5)]) hx hb dX4_stands_29 hl (by decide) rfl (fun ls hl => ?_)
          refine lv_aload_n hx hb dX4_stands_31 rfl (lv_at hl 3 rfl) ?_
          refine lv_bipush (v := (63 : Int32)) hx hb dX4_stands_32 (by decide) ?_
          obtain ⟨g34, hM⟩ := rd_e hM
          refine va_iald hx hb hE.1 hP 2 0 rfl rfl g34 dX4_stands_34 ?_
          refine lv_iload hx hb dX4_stands_35 (lv_at hl 5 rfl) ?_
          obtain ⟨x37, h37, hM⟩ := bind_e hM
          refine rdS (As := [.int (s_q1 (63 : Int32).toNatClampNeg), .int v4_5]) (rest := []) (st2 := [.int (b2i x37)]) ⟨hx, hb, hml, hown, hU⟩ hE (okX4_has (s_q1 (63 : Int32).toNatClampNeg) v4_5 x37 h37) lk_X4_120 (hP.sub [] rfl) rfl hl.1 rfl (Nat.le_of_ble_eq_true rfl) ⟨Nat.le_of_ble_eq_true rfl, Nat.le_of_ble_eq_true rfl⟩ dX4_stands_37 ⟨Nat.le_refl _, Nat.le_refl _⟩ rfl ?_
          refine lv_if_ne (tgt := 105) hx hb dX4_stands_40 (by decide) (fun c40 => ?_) (fun c40 => ?_)
          · have hM := ite_t (b2i_ne0 c40) hM
            refine lv_iconst (v := (0 : Int32)) hx hb dX4_stands_105 (by decide) ?_
            refine lv_istore_n (lv' := [(3, .int (0 : Int32)), (6, .int ((4 : Int32) * (s_t_paper ((4 : Int32) * v4_5).toNatClampNeg))), (5, .int ((4 : Int32) * v4_5)), (0, .ref a_t), (1, .ref a_q1), (4, .int v4_5)]) hx hb dX4_stands_106 rfl hl (by decide) rfl (fun ls hl => ?_)
            refine lv_aload_n hx hb dX4_stands_107 rfl (lv_at hl 3 rfl) ?_
            refine va_get (D := (dC, dI)) (ci := 4) (v := .ref a_t_paper) (C := RX4) (T := TX4) (N := 21) hx hb hU inlX4 hown hE.1 hP 0 rfl rfl 3 (by decide) (hU _ u_4_14) (fun _ h9 => h9) rfl dX4_stands_108 ?_
            refine lv_iconst (v := (4 : Int32)) hx hb dX4_stands_111 (by decide) ?_
            refine lv_iload hx hb dX4_stands_112 (lv_at hl 5 rfl) ?_
            refine lv_imul hx hb dX4_stands_114 ?_
            obtain ⟨g115, hM⟩ := rd_e hM
            refine va_iald hx hb hE.1 hP 1 0 rfl rfl g115 dX4_stands_115 ?_
            refine lv_istore (lv' := [(4, .int (s_t_paper ((4 : Int32) * v4_5).toNatClampNeg)), (3, .int (0 : Int32)), (6, .int ((4 : Int32) * (s_t_paper ((4 : Int32) * v4_5).toNatClampNeg))), (5, .int ((4 : Int32) * v4_5)), (0, .ref a_t), (1, .ref a_q1)]) hx hb dX4_stands_116 hl (by decide) rfl (fun ls hl => ?_)
            refine lv_goto (tgt := 5) hx hb dX4_stands_118 (by decide) ?_
            exact ih_5 false (s_t_paper ((4 : Int32) * v4_5).toNatClampNeg) hM ls (lv_sub hl [4, 5, 1, 0] rfl)
          · have hM := ite_f (b2i_eq0 c40) hM
            refine lv_aload_n hx hb dX4_stands_43 rfl (lv_at hl 3 rfl) ?_
            refine lv_bipush (v := (65 : Int32)) hx hb dX4_stands_44 (by decide) ?_
            obtain ⟨g46, hM⟩ := rd_e hM
            refine va_iald hx hb hE.1 hP 2 0 rfl rfl g46 dX4_stands_46 ?_
            refine lv_aload_n hx hb dX4_stands_47 rfl (lv_at hl 2 rfl) ?_
            refine va_get (D := (dC, dI)) (ci := 4) (v := .ref a_t_paper) (C := RX4) (T := TX4) (N := 21) hx hb hU inlX4 hown hE.1 hP 0 rfl rfl 3 (by decide) (hU _ u_4_14) (fun _ h9 => h9) rfl dX4_stands_48 ?_
            refine lv_iload hx hb dX4_stands_51 (lv_at hl 1 rfl) ?_
            refine lv_iconst (v := (3 : Int32)) hx hb dX4_stands_53 (by decide) ?_
            refine lv_iadd hx hb dX4_stands_54 ?_
            obtain ⟨g55, hM⟩ := rd_e hM
            refine va_iald hx hb hE.1 hP 1 0 rfl rfl g55 dX4_stands_55 ?_
            refine lv_icmp_gt (tgt := 105) hx hb dX4_stands_56 (by decide) (fun c56 => ?_) (fun c56 => ?_)
            · have hM := ite_t c56 hM
              refine lv_iconst (v := (0 : Int32)) hx hb dX4_stands_105 (by decide) ?_
              refine lv_istore_n (lv' := [(3, .int (0 : Int32)), (6, .int ((4 : Int32) * (s_t_paper ((4 : Int32) * v4_5).toNatClampNeg))), (5, .int ((4 : Int32) * v4_5)), (0, .ref a_t), (1, .ref a_q1), (4, .int v4_5)]) hx hb dX4_stands_106 rfl hl (by decide) rfl (fun ls hl => ?_)
              refine lv_aload_n hx hb dX4_stands_107 rfl (lv_at hl 3 rfl) ?_
              refine va_get (D := (dC, dI)) (ci := 4) (v := .ref a_t_paper) (C := RX4) (T := TX4) (N := 21) hx hb hU inlX4 hown hE.1 hP 0 rfl rfl 3 (by decide) (hU _ u_4_14) (fun _ h9 => h9) rfl dX4_stands_108 ?_
              refine lv_iconst (v := (4 : Int32)) hx hb dX4_stands_111 (by decide) ?_
              refine lv_iload hx hb dX4_stands_112 (lv_at hl 5 rfl) ?_
              refine lv_imul hx hb dX4_stands_114 ?_
              obtain ⟨g115, hM⟩ := rd_e hM
              refine va_iald hx hb hE.1 hP 1 0 rfl rfl g115 dX4_stands_115 ?_
              refine lv_istore (lv' := [(4, .int (s_t_paper ((4 : Int32) * v4_5).toNatClampNeg)), (3, .int (0 : Int32)), (6, .int ((4 : Int32) * (s_t_paper ((4 : Int32) * v4_5).toNatClampNeg))), (5, .int ((4 : Int32) * v4_5)), (0, .ref a_t), (1, .ref a_q1)]) hx hb dX4_stands_116 hl (by decide) rfl (fun ls hl => ?_)
              refine lv_goto (tgt := 5) hx hb dX4_stands_118 (by decide) ?_
              exact ih_5 false (s_t_paper ((4 : Int32) * v4_5).toNatClampNeg) hM ls (lv_sub hl [4, 5, 1, 0] rfl)
            · have hM := ite_f c56 hM
              refine lv_aload_n hx hb dX4_stands_59 rfl (lv_at hl 2 rfl) ?_
              refine va_get (D := (dC, dI)) (ci := 4) (v := .ref a_t_paper) (C := RX4) (T := TX4) (N := 21) hx hb hU inlX4 hown hE.1 hP 0 rfl rfl 3 (by decide) (hU _ u_4_14) (fun _ h9 => h9) rfl dX4_stands_60 ?_
              refine lv_iload hx hb dX4_stands_63 (lv_at hl 1 rfl) ?_
              refine lv_iconst (v := (1 : Int32)) hx hb dX4_stands_65 (by decide) ?_
              refine lv_iadd hx hb dX4_stands_66 ?_
              obtain ⟨g67, hM⟩ := rd_e hM
              refine va_iald hx hb hE.1 hP 1 0 rfl rfl g67 dX4_stands_67 ?_
              refine lv_aload_n hx hb dX4_stands_68 rfl (lv_at hl 2 rfl) ?_
              refine va_get (D := (dC, dI)) (ci := 4) (v := .ref a_t_paper) (C := RX4) (T := TX4) (N := 21) hx hb hU inlX4 hown hE.1 hP 0 rfl rfl 3 (by decide) (hU _ u_4_14) (fun _ h9 => h9) rfl dX4_stands_69 ?_
              refine lv_iload hx hb dX4_stands_72 (lv_at hl 1 rfl) ?_
              refine lv_iconst (v := (2 : Int32)) hx hb dX4_stands_74 (by decide) ?_
              refine lv_iadd hx hb dX4_stands_75 ?_
              obtain ⟨g76, hM⟩ := rd_e hM
              refine va_iald hx hb hE.1 hP 1 0 rfl rfl g76 dX4_stands_76 ?_
              refine lv_aload_n hx hb dX4_stands_77 rfl (lv_at hl 2 rfl) ?_
              refine va_get (D := (dC, dI)) (ci := 4) (v := .ref a_t_paper) (C := RX4) (T := TX4) (N := 21) hx hb hU inlX4 hown hE.1 hP 0 rfl rfl 3 (by decide) (hU _ u_4_14) (fun _ h9 => h9) rfl dX4_stands_78 ?_
              refine lv_iload hx hb dX4_stands_81 (lv_at hl 0 rfl) ?_
              refine lv_iconst (v := (1 : Int32)) hx hb dX4_stands_83 (by decide) ?_
              refine lv_iadd hx hb dX4_stands_84 ?_
              obtain ⟨g85, hM⟩ := rd_e hM
              refine va_iald hx hb hE.1 hP 1 0 rfl rfl g85 dX4_stands_85 ?_
              refine lv_aload_n hx hb dX4_stands_86 rfl (lv_at hl 2 rfl) ?_
              refine va_get (D := (dC, dI)) (ci := 4) (v := .ref a_t_paper) (C := RX4) (T := TX4) (N := 21) hx hb hU inlX4 hown hE.1 hP 0 rfl rfl 3 (by decide) (hU _ u_4_14) (fun _ h9 => h9) rfl dX4_stands_87 ?_
              refine lv_iload hx hb dX4_stands_90 (lv_at hl 0 rfl) ?_
              refine lv_iconst (v := (2 : Int32)) hx hb dX4_stands_92 (by decide) ?_
              refine lv_iadd hx hb dX4_stands_93 ?_
              obtain ⟨g94, hM⟩ := rd_e hM
              refine va_iald hx hb hE.1 hP 1 0 rfl rfl g94 dX4_stands_94 ?_
              obtain ⟨x95, h95, hM⟩ := bind_e hM
              refine rdS (As := [.int (s_t_paper (((4 : Int32) * v4_5) + (1 : Int32)).toNatClampNeg), .int (s_t_paper (((4 : Int32) * v4_5) + (2 : Int32)).toNatClampNeg), .int (s_t_paper (((4 : Int32) * (s_t_paper ((4 : Int32) * v4_5).toNatClampNeg)) + (1 : Int32)).toNatClampNeg), .int (s_t_paper (((4 : Int32) * (s_t_paper ((4 : Int32) * v4_5).toNatClampNeg)) + (2 : Int32)).toNatClampNeg)]) (rest := []) (st2 := [.int (b2i x95)]) ⟨hx, hb, hml, hown, hU⟩ hE (okX4_isWithin (s_t_paper (((4 : Int32) * v4_5) + (1 : Int32)).toNatClampNeg) (s_t_paper (((4 : Int32) * v4_5) + (2 : Int32)).toNatClampNeg) (s_t_paper (((4 : Int32) * (s_t_paper ((4 : Int32) * v4_5).toNatClampNeg)) + (1 : Int32)).toNatClampNeg) (s_t_paper (((4 : Int32) * (s_t_paper ((4 : Int32) * v4_5).toNatClampNeg)) + (2 : Int32)).toNatClampNeg) x95 h95) lk_X4_123 (hP.sub [] rfl) rfl hl.1 rfl (Nat.le_of_ble_eq_true rfl) ⟨Nat.le_of_ble_eq_true rfl, Nat.le_of_ble_eq_true rfl⟩ dX4_stands_95 ⟨Nat.le_refl _, Nat.le_refl _⟩ rfl ?_
              refine lv_if_eq (tgt := 105) hx hb dX4_stands_98 (by decide) (fun c98 => ?_) (fun c98 => ?_)
              · have hM := ite_f (b2i_eq0 c98) hM
                refine lv_iconst (v := (0 : Int32)) hx hb dX4_stands_105 (by decide) ?_
                refine lv_istore_n (lv' := [(3, .int (0 : Int32)), (6, .int ((4 : Int32) * (s_t_paper ((4 : Int32) * v4_5).toNatClampNeg))), (5, .int ((4 : Int32) * v4_5)), (0, .ref a_t), (1, .ref a_q1), (4, .int v4_5)]) hx hb dX4_stands_106 rfl hl (by decide) rfl (fun ls hl => ?_)
                refine lv_aload_n hx hb dX4_stands_107 rfl (lv_at hl 3 rfl) ?_
                refine va_get (D := (dC, dI)) (ci := 4) (v := .ref a_t_paper) (C := RX4) (T := TX4) (N := 21) hx hb hU inlX4 hown hE.1 hP 0 rfl rfl 3 (by decide) (hU _ u_4_14) (fun _ h9 => h9) rfl dX4_stands_108 ?_
                refine lv_iconst (v := (4 : Int32)) hx hb dX4_stands_111 (by decide) ?_
                refine lv_iload hx hb dX4_stands_112 (lv_at hl 5 rfl) ?_
                refine lv_imul hx hb dX4_stands_114 ?_
                obtain ⟨g115, hM⟩ := rd_e hM
                refine va_iald hx hb hE.1 hP 1 0 rfl rfl g115 dX4_stands_115 ?_
                refine lv_istore (lv' := [(4, .int (s_t_paper ((4 : Int32) * v4_5).toNatClampNeg)), (3, .int (0 : Int32)), (6, .int ((4 : Int32) * (s_t_paper ((4 : Int32) * v4_5).toNatClampNeg))), (5, .int ((4 : Int32) * v4_5)), (0, .ref a_t), (1, .ref a_q1)]) hx hb dX4_stands_116 hl (by decide) rfl (fun ls hl => ?_)
                refine lv_goto (tgt := 5) hx hb dX4_stands_118 (by decide) ?_
                exact ih_5 false (s_t_paper ((4 : Int32) * v4_5).toNatClampNeg) hM ls (lv_sub hl [4, 5, 1, 0] rfl)
              · have hM := ite_t (b2i_ne0 c98) hM
                refine lv_iconst (v := (1 : Int32)) hx hb dX4_stands_101 (by decide) ?_
                refine lv_goto (tgt := 106) hx hb dX4_stands_102 (by decide) ?_
                refine lv_istore_n (lv' := [(3, .int (1 : Int32)), (6, .int ((4 : Int32) * (s_t_paper ((4 : Int32) * v4_5).toNatClampNeg))), (5, .int ((4 : Int32) * v4_5)), (0, .ref a_t), (1, .ref a_q1), (4, .int v4_5)]) hx hb dX4_stands_106 rfl hl (by decide) rfl (fun ls hl => ?_)
                refine lv_aload_n hx hb dX4_stands_107 rfl (lv_at hl 3 rfl) ?_
                refine va_get (D := (dC, dI)) (ci := 4) (v := .ref a_t_paper) (C := RX4) (T := TX4) (N := 21) hx hb hU inlX4 hown hE.1 hP 0 rfl rfl 3 (by decide) (hU _ u_4_14) (fun _ h9 => h9) rfl dX4_stands_108 ?_
                refine lv_iconst (v := (4 : Int32)) hx hb dX4_stands_111 (by decide) ?_
                refine lv_iload hx hb dX4_stands_112 (lv_at hl 5 rfl) ?_
                refine lv_imul hx hb dX4_stands_114 ?_
                obtain ⟨g115, hM⟩ := rd_e hM
                refine va_iald hx hb hE.1 hP 1 0 rfl rfl g115 dX4_stands_115 ?_
                refine lv_istore (lv' := [(4, .int (s_t_paper ((4 : Int32) * v4_5).toNatClampNeg)), (3, .int (1 : Int32)), (6, .int ((4 : Int32) * (s_t_paper ((4 : Int32) * v4_5).toNatClampNeg))), (5, .int ((4 : Int32) * v4_5)), (0, .ref a_t), (1, .ref a_q1)]) hx hb dX4_stands_116 hl (by decide) rfl (fun ls hl => ?_)
                refine lv_goto (tgt := 5) hx hb dX4_stands_118 (by decide) ?_
                exact ih_5 true (s_t_paper ((4 : Int32) * v4_5).toNatClampNeg) hM ls (lv_sub hl [4, 5, 1, 0] rfl)
  exact w_5 FU true v2 hM ls (lv_sub hl [2, 3, 1, 0] rfl)
noncomputable def mX4_counts (s_q1 : Nat → Int32) (s_t_paper : Nat → Int32) (v2 : Int32) : Option (Bool) := rd s_q1 66 ((1 : Int32) + ((5 : Int32) * v2)) (fun x8 => (if x8 = (9 : Int32) then some (true) else (mX4_stands s_t_paper s_q1 x8).bind (fun x24 => (if x24 = true then rd s_q1 66 (((1 : Int32) + ((5 : Int32) * v2)) + (2 : Int32)) (fun x34 => rd s_q1 66 (((1 : Int32) + ((5 : Int32) * v2)) + (3 : Int32)) (fun x39 => rd s_t_paper 24 (((4 : Int32) * x8) + (1 : Int32)) (fun x50 => rd s_t_paper 24 (((4 : Int32) * x8) + (2 : Int32)) (fun x61 => (mX4_isWithin x34 x39 x50 x61).bind (fun x62 => (if x62 = true then rd s_q1 66 (64 : Int32) (fun x71 => rd s_q1 66 (((1 : Int32) + ((5 : Int32) * v2)) + (1 : Int32)) (fun x76 => (mX4_has x71 x76).bind (fun x77 => (if x77 = true then some (false) else some (true))))) else some (false))))))) else some (false)))))
set_option maxHeartbeats 4000000 in
set_option maxRecDepth 100000 in
theorem okX4_counts {l : Launch} {dC : Nat → ClassId} {dI : Nat → Nat → Nat} {cI cC cZ : ClassId} (a_t a_t_text a_t_paper a_t_now a_t_trial a_t_diary a_t_kept a_t_isKept a_t_seenAt a_t_worth a_t_readPaper a_t_read a_q1 : Nat) (s_t : Int32 × Int32 × Int32 × Int32 × Int32 × Int32 × Int32 × Int32 × Int32 × Int64) (s_q1 : Nat → Int32) (s_t_paper : Nat → Int32) (v2 : Int32) (res : Bool) (hM : mX4_counts s_q1 s_t_paper v2 = some res) : Rd l yX4_counts cX4_counts 5 (some .boolean) 3 69 (dC, dI) cI cC cZ [(a_t, .inr (4, [.ref a_t_text, .int s_t.1, .int s_t.2.1, .ref a_t_paper, .ref a_t_now, .ref a_t_trial, .ref a_t_diary, .int s_t.2.2.1, .int s_t.2.2.2.1, .ref a_t_kept, .ref a_t_isKept, .ref a_t_seenAt, .int s_t.2.2.2.2.1, .long s_t.2.2.2.2.2.2.2.2.2, .ref a_t_worth, .int s_t.2.2.2.2.2.1, .int s_t.2.2.2.2.2.2.1, .ref a_t_readPaper, .ref a_t_read, .int s_t.2.2.2.2.2.2.2.1, .int s_t.2.2.2.2.2.2.2.2.1])), (a_q1, .inl (cI, 66, .inl s_q1)), (a_t_paper, .inl (cI, 24, .inl s_t_paper))] [.ref a_t, .ref a_q1, .int v2] (some (.int (b2i res))) := by
  refine Rd.ofZ (by decide) (Nat.le_of_ble_eq_true rfl) [(0, .ref a_t), (1, .ref a_q1), (2, .int v2)] rfl ?_
  intro p e s m args below meth c ls Q hx hb hml hown hU hE hP rt hl
  have hown : s.vm.findClass RX4 = some m.cls := hown
  unfold mX4_counts at hM
  refine lv_iconst (v := (1 : Int32)) hx hb dX4_counts_0 (by decide) ?_
  refine lv_iconst (v := (5 : Int32)) hx hb dX4_counts_1 (by decide) ?_
  refine lv_iload_n hx hb dX4_counts_2 rfl (lv_at hl 2 rfl) ?_
  refine lv_imul hx hb dX4_counts_3 ?_
  refine lv_iadd hx hb dX4_counts_4 ?_
  refine lv_istore_n (lv' := [(3, .int ((1 : Int32) + ((5 : Int32) * v2))), (0, .ref a_t), (1, .ref a_q1), (2, .int v2)]) hx hb dX4_counts_5 rfl hl (by decide) rfl (fun ls hl => ?_)
  refine lv_aload_n hx hb dX4_counts_6 rfl (lv_at hl 2 rfl) ?_
  refine lv_iload_n hx hb dX4_counts_7 rfl (lv_at hl 0 rfl) ?_
  obtain ⟨g8, hM⟩ := rd_e hM
  refine va_iald hx hb hE.1 hP 1 0 rfl rfl g8 dX4_counts_8 ?_
  refine lv_istore (lv' := [(4, .int (s_q1 ((1 : Int32) + ((5 : Int32) * v2)).toNatClampNeg)), (3, .int ((1 : Int32) + ((5 : Int32) * v2))), (0, .ref a_t), (1, .ref a_q1), (2, .int v2)]) hx hb dX4_counts_9 hl (by decide) rfl (fun ls hl => ?_)
  refine lv_iload hx hb dX4_counts_11 (lv_at hl 0 rfl) ?_
  refine lv_bipush (v := (9 : Int32)) hx hb dX4_counts_13 (by decide) ?_
  refine lv_icmp_ne (tgt := 20) hx hb dX4_counts_15 (by decide) (fun c15 => ?_) (fun c15 => ?_)
  · have hM := ite_f c15 hM
    refine lv_aload_n hx hb dX4_counts_20 rfl (lv_at hl 2 rfl) ?_
    refine lv_aload_n hx hb dX4_counts_21 rfl (lv_at hl 3 rfl) ?_
    refine lv_iload hx hb dX4_counts_22 (lv_at hl 0 rfl) ?_
    obtain ⟨x24, h24, hM⟩ := bind_e hM
    refine rdV (As := [.ref a_q1, .int (s_q1 ((1 : Int32) + ((5 : Int32) * v2)).toNatClampNeg)]) (rest := []) (st2 := [.int (b2i x24)]) ⟨hx, hb, hml, hown, hU⟩ hE (okX4_stands a_t a_t_text a_t_paper a_t_now a_t_trial a_t_diary a_t_kept a_t_isKept a_t_seenAt a_t_worth a_t_readPaper a_t_read a_q1 s_t s_t_paper s_q1 (s_q1 ((1 : Int32) + ((5 : Int32) * v2)).toNatClampNeg) x24 h24) lk_X4_127 (hP.sub [0, 2, 1] rfl) rfl rfl rfl hl.1 rfl (Nat.le_of_ble_eq_true rfl) ⟨Nat.le_of_ble_eq_true rfl, Nat.le_of_ble_eq_true rfl⟩ dX4_counts_24 ⟨Nat.le_refl _, Nat.le_refl _⟩ rfl ?_
    refine lv_if_eq (tgt := 87) hx hb dX4_counts_27 (by decide) (fun c27 => ?_) (fun c27 => ?_)
    · have hM := ite_f (b2i_eq0 c27) hM
      refine lv_iconst (v := (0 : Int32)) hx hb dX4_counts_87 (by decide) ?_
      cases hM
      exact rt false _ _ dX4_counts_88 rfl
    · have hM := ite_t (b2i_ne0 c27) hM
      refine lv_aload_n hx hb dX4_counts_30 rfl (lv_at hl 3 rfl) ?_
      refine lv_iload_n hx hb dX4_counts_31 rfl (lv_at hl 1 rfl) ?_
      refine lv_iconst (v := (2 : Int32)) hx hb dX4_counts_32 (by decide) ?_
      refine lv_iadd hx hb dX4_counts_33 ?_
      obtain ⟨g34, hM⟩ := rd_e hM
      refine va_iald hx hb hE.1 hP 1 0 rfl rfl g34 dX4_counts_34 ?_
      refine lv_aload_n hx hb dX4_counts_35 rfl (lv_at hl 3 rfl) ?_
      refine lv_iload_n hx hb dX4_counts_36 rfl (lv_at hl 1 rfl) ?_
      refine lv_iconst (v := (3 : Int32)) hx hb dX4_counts_37 (by decide) ?_
      refine lv_iadd hx hb dX4_counts_38 ?_
      obtain ⟨g39, hM⟩ := rd_e hM
      refine va_iald hx hb hE.1 hP 1 0 rfl rfl g39 dX4_counts_39 ?_
      refine lv_aload_n hx hb dX4_counts_40 rfl (lv_at hl 2 rfl) ?_
      refine va_get (D := (dC, dI)) (ci := 4) (v := .ref a_t_paper) (C := RX4) (T := TX4) (N := 21) hx hb hU inlX4 hown hE.1 hP 0 rfl rfl 3 (by decide) (hU _ u_4_14) (fun _ h9 => h9) rfl dX4_counts_41 ?_
      refine lv_iconst (v := (4 : Int32)) hx hb dX4_counts_44 (by decide) ?_
      refine lv_iload hx hb dX4_counts_45 (lv_at hl 0 rfl) ?_
      refine lv_imul hx hb dX4_counts_47 ?_
      refine lv_iconst (v := (1 : Int32)) hx hb dX4_counts_48 (by decide) ?_
      refine lv_iadd hx hb dX4_counts_49 ?_
      obtain ⟨g50, hM⟩ := rd_e hM
      refine va_iald hx hb hE.1 hP 2 0 rfl rfl g50 dX4_counts_50 ?_
      refine lv_aload_n hx hb dX4_counts_51 rfl (lv_at hl 2 rfl) ?_
      refine va_get (D := (dC, dI)) (ci := 4) (v := .ref a_t_paper) (C := RX4) (T := TX4) (N := 21) hx hb hU inlX4 hown hE.1 hP 0 rfl rfl 3 (by decide) (hU _ u_4_14) (fun _ h9 => h9) rfl dX4_counts_52 ?_
      refine lv_iconst (v := (4 : Int32)) hx hb dX4_counts_55 (by decide) ?_
      refine lv_iload hx hb dX4_counts_56 (lv_at hl 0 rfl) ?_
      refine lv_imul hx hb dX4_counts_58 ?_
      refine lv_iconst (v := (2 : Int32)) hx hb dX4_counts_59 (by decide) ?_
      refine lv_iadd hx hb dX4_counts_60 ?_
      obtain ⟨g61, hM⟩ := rd_e hM
      refine va_iald hx hb hE.1 hP 2 0 rfl rfl g61 dX4_counts_61 ?_
      obtain ⟨x62, h62, hM⟩ := bind_e hM
      refine rdS (As := [.int (s_q1 (((1 : Int32) + ((5 : Int32) * v2)) + (2 : Int32)).toNatClampNeg), .int (s_q1 (((1 : Int32) + ((5 : Int32) * v2)) + (3 : Int32)).toNatClampNeg), .int (s_t_paper (((4 : Int32) * (s_q1 ((1 : Int32) + ((5 : Int32) * v2)).toNatClampNeg)) + (1 : Int32)).toNatClampNeg), .int (s_t_paper (((4 : Int32) * (s_q1 ((1 : Int32) + ((5 : Int32) * v2)).toNatClampNeg)) + (2 : Int32)).toNatClampNeg)]) (rest := []) (st2 := [.int (b2i x62)]) ⟨hx, hb, hml, hown, hU⟩ hE (okX4_isWithin (s_q1 (((1 : Int32) + ((5 : Int32) * v2)) + (2 : Int32)).toNatClampNeg) (s_q1 (((1 : Int32) + ((5 : Int32) * v2)) + (3 : Int32)).toNatClampNeg) (s_t_paper (((4 : Int32) * (s_q1 ((1 : Int32) + ((5 : Int32) * v2)).toNatClampNeg)) + (1 : Int32)).toNatClampNeg) (s_t_paper (((4 : Int32) * (s_q1 ((1 : Int32) + ((5 : Int32) * v2)).toNatClampNeg)) + (2 : Int32)).toNatClampNeg) x62 h62) lk_X4_123 (hP.sub [] rfl) rfl hl.1 rfl (Nat.le_of_ble_eq_true rfl) ⟨Nat.le_of_ble_eq_true rfl, Nat.le_of_ble_eq_true rfl⟩ dX4_counts_62 ⟨Nat.le_refl _, Nat.le_refl _⟩ rfl ?_
      refine lv_if_eq (tgt := 87) hx hb dX4_counts_65 (by decide) (fun c65 => ?_) (fun c65 => ?_)
      · have hM := ite_f (b2i_eq0 c65) hM
        refine lv_iconst (v := (0 : Int32)) hx hb dX4_counts_87 (by decide) ?_
        cases hM
        exact rt false _ _ dX4_counts_88 rfl
      · have hM := ite_t (b2i_ne0 c65) hM
        refine lv_aload_n hx hb dX4_counts_68 rfl (lv_at hl 3 rfl) ?_
        refine lv_bipush (v := (64 : Int32)) hx hb dX4_counts_69 (by decide) ?_
        obtain ⟨g71, hM⟩ := rd_e hM
        refine va_iald hx hb hE.1 hP 1 0 rfl rfl g71 dX4_counts_71 ?_
        refine lv_aload_n hx hb dX4_counts_72 rfl (lv_at hl 3 rfl) ?_
        refine lv_iload_n hx hb dX4_counts_73 rfl (lv_at hl 1 rfl) ?_
        refine lv_iconst (v := (1 : Int32)) hx hb dX4_counts_74 (by decide) ?_
        refine lv_iadd hx hb dX4_counts_75 ?_
        obtain ⟨g76, hM⟩ := rd_e hM
        refine va_iald hx hb hE.1 hP 1 0 rfl rfl g76 dX4_counts_76 ?_
        obtain ⟨x77, h77, hM⟩ := bind_e hM
        refine rdS (As := [.int (s_q1 (64 : Int32).toNatClampNeg), .int (s_q1 (((1 : Int32) + ((5 : Int32) * v2)) + (1 : Int32)).toNatClampNeg)]) (rest := []) (st2 := [.int (b2i x77)]) ⟨hx, hb, hml, hown, hU⟩ hE (okX4_has (s_q1 (64 : Int32).toNatClampNeg) (s_q1 (((1 : Int32) + ((5 : Int32) * v2)) + (1 : Int32)).toNatClampNeg) x77 h77) lk_X4_120 (hP.sub [] rfl) rfl hl.1 rfl (Nat.le_of_ble_eq_true rfl) ⟨Nat.le_of_ble_eq_true rfl, Nat.le_of_ble_eq_true rfl⟩ dX4_counts_77 ⟨Nat.le_refl _, Nat.le_refl _⟩ rfl ?_
        refine lv_if_ne (tgt := 87) hx hb dX4_counts_80 (by decide) (fun c80 => ?_) (fun c80 => ?_)
        · have hM := ite_t (b2i_ne0 c80) hM
          refine lv_iconst (v := (0 : Int32)) hx hb dX4_counts_87 (by decide) ?_
          cases hM
          exact rt false _ _ dX4_counts_88 rfl
        · have hM := ite_f (b2i_eq0 c80) hM
          refine lv_iconst (v := (1 : Int32)) hx hb dX4_counts_83 (by decide) ?_
          refine lv_goto (tgt := 88) hx hb dX4_counts_84 (by decide) ?_
          cases hM
          exact rt true _ _ dX4_counts_88 rfl
  · have hM := ite_t c15 hM
    refine lv_iconst (v := (1 : Int32)) hx hb dX4_counts_18 (by decide) ?_
    cases hM
    exact rt true _ _ dX4_counts_19 rfl
noncomputable def mX4_bare_b15 (k4 : Int32 → Int32 → Option (Int32)) (s_t_now : Nat → Int32) (s_t_paper : Nat → Int32) (v1 : Int32) (v2 : Int32) : Nat → Bool → Int32 → Option (Int32)
  | 0, _, _ => none
  | n + 1, v3, v4 => rd s_t_now 66 (0 : Int32) (fun x22 => (if x22 ≤ v4 then (if v3 = true then k4 (v1 + (1 : Int32)) (v2 + (1 : Int32)) else k4 (v1 + (0 : Int32)) (v2 + (1 : Int32))) else (if v3 = true then (mX4_counts s_t_now s_t_paper v4).bind (fun x45 => (if x45 = true then rd s_t_now 66 (((1 : Int32) + ((5 : Int32) * v4)) + (2 : Int32)) (fun x61 => rd s_t_now 66 (((1 : Int32) + ((5 : Int32) * v4)) + (3 : Int32)) (fun x70 => (mX4_isWithin v2 (5 : Int32) x61 x70).bind (fun x71 => (if x71 = true then mX4_bare_b15 k4 s_t_now s_t_paper v1 v2 n false (v4 + (1 : Int32)) else mX4_bare_b15 k4 s_t_now s_t_paper v1 v2 n true (v4 + (1 : Int32)))))) else mX4_bare_b15 k4 s_t_now s_t_paper v1 v2 n true (v4 + (1 : Int32)))) else mX4_bare_b15 k4 s_t_now s_t_paper v1 v2 n false (v4 + (1 : Int32)))))
noncomputable def mX4_bare_b4 (s_t_now : Nat → Int32) (s_t_paper : Nat → Int32) : Nat → Int32 → Int32 → Option (Int32)
  | 0, _, _ => none
  | n + 1, v1, v2 => (if (32 : Int32) ≤ v2 then some (v1) else mX4_bare_b15 (mX4_bare_b4 s_t_now s_t_paper n) s_t_now s_t_paper v1 v2 FU true (0 : Int32))
noncomputable def mX4_bare (s_t_now : Nat → Int32) (s_t_paper : Nat → Int32) : Option (Int32) := mX4_bare_b4 s_t_now s_t_paper FU (0 : Int32) (0 : Int32)
set_option maxHeartbeats 4000000 in
set_option maxRecDepth 100000 in
theorem okX4_bare {l : Launch} {dC : Nat → ClassId} {dI : Nat → Nat → Nat} {cI cC cZ : ClassId} (a_t a_t_text a_t_paper a_t_now a_t_trial a_t_diary a_t_kept a_t_isKept a_t_seenAt a_t_worth a_t_readPaper a_t_read : Nat) (s_t : Int32 × Int32 × Int32 × Int32 × Int32 × Int32 × Int32 × Int32 × Int32 × Int64) (s_t_now : Nat → Int32) (s_t_paper : Nat → Int32) (res : Int32) (hM : mX4_bare s_t_now s_t_paper = some res) : Rd l yX4_bare cX4_bare 6 (some .int) 4 93 (dC, dI) cI cC cZ [(a_t, .inr (4, [.ref a_t_text, .int s_t.1, .int s_t.2.1, .ref a_t_paper, .ref a_t_now, .ref a_t_trial, .ref a_t_diary, .int s_t.2.2.1, .int s_t.2.2.2.1, .ref a_t_kept, .ref a_t_isKept, .ref a_t_seenAt, .int s_t.2.2.2.2.1, .long s_t.2.2.2.2.2.2.2.2.2, .ref a_t_worth, .int s_t.2.2.2.2.2.1, .int s_t.2.2.2.2.2.2.1, .ref a_t_readPaper, .ref a_t_read, .int s_t.2.2.2.2.2.2.2.1, .int s_t.2.2.2.2.2.2.2.2.1])), (a_t_now, .inl (cI, 66, .inl s_t_now)), (a_t_paper, .inl (cI, 24, .inl s_t_paper))] [.ref a_t] (some (.int res)) := by
  refine Rd.ofI (by decide) (Nat.le_of_ble_eq_true rfl) [(0, .ref a_t)] rfl ?_
  intro p e s m args below meth c ls Q hx hb hml hown hU hE hP rt hl
  have hown : s.vm.findClass RX4 = some m.cls := hown
  unfold mX4_bare at hM
  refine lv_iconst (v := (0 : Int32)) hx hb dX4_bare_0 (by decide) ?_
  refine lv_istore_n (lv' := [(1, .int (0 : Int32)), (0, .ref a_t)]) hx hb dX4_bare_1 rfl hl (by decide) rfl (fun ls hl => ?_)
  refine lv_iconst (v := (0 : Int32)) hx hb dX4_bare_2 (by decide) ?_
  refine lv_istore_n (lv' := [(2, .int (0 : Int32)), (1, .int (0 : Int32)), (0, .ref a_t)]) hx hb dX4_bare_3 rfl hl (by decide) rfl (fun ls hl => ?_)
  have w_4 : ∀ (n : Nat) (v1_4 : Int32) (v2_4 : Int32), mX4_bare_b4 s_t_now s_t_paper n v1_4 v2_4 = some res → ∀ (ls : Array Slot), lv_has ls 6 [(0, .ref a_t), (1, .int v1_4), (2, .int v2_4)] → W p l e (RM 4 93) s m args below meth c s.heap [] 0 0 Q (F0 m 4 ls []) := by
    intro n
    induction n with
    | zero =>
      intro v1_4 v2_4 hM
      rw [mX4_bare_b4] at hM
      cases hM
    | succ n_4 ih_4 =>
      intro v1_4 v2_4 hM ls hl
      rw [mX4_bare_b4] at hM
      refine lv_iload_n hx hb dX4_bare_4 rfl (lv_at hl 2 rfl) ?_
      refine lv_bipush (v := (32 : Int32)) hx hb dX4_bare_5 (by decide) ?_
      refine lv_icmp_ge (tgt := 107) hx hb dX4_bare_7 (by decide) (fun c7 => ?_) (fun c7 => ?_)
      · have hM := ite_t c7 hM
        refine lv_iload_n hx hb dX4_bare_107 rfl (lv_at hl 1 rfl) ?_
        cases hM
        exact rt _ _ _ dX4_bare_108 rfl
      · have hM := ite_f c7 hM
        refine lv_iconst (v := (1 : Int32)) hx hb dX4_bare_10 (by decide) ?_
        refine lv_istore_n (lv' := [(3, .int (1 : Int32)), (0, .ref a_t), (1, .int v1_4), (2, .int v2_4)]) hx hb dX4_bare_11 rfl hl (by decide) rfl (fun ls hl => ?_)
        refine lv_iconst (v := (0 : Int32)) hx hb dX4_bare_12 (by decide) ?_
        refine lv_istore (lv' := [(4, .int (0 : Int32)), (3, .int (1 : Int32)), (0, .ref a_t), (1, .int v1_4), (2, .int v2_4)]) hx hb dX4_bare_13 hl (by decide) rfl (fun ls hl => ?_)
        have w_15 : ∀ (n : Nat) (v3_15 : Bool) (v4_15 : Int32), mX4_bare_b15 (mX4_bare_b4 s_t_now s_t_paper n_4) s_t_now s_t_paper v1_4 v2_4 n v3_15 v4_15 = some res → ∀ (ls : Array Slot), lv_has ls 6 [(0, .ref a_t), (1, .int v1_4), (2, .int v2_4), (3, .int (b2i v3_15)), (4, .int v4_15)] → W p l e (RM 4 93) s m args below meth c s.heap [] 0 0 Q (F0 m 15 ls []) := by
          intro n
          induction n with
          | zero =>
            intro v3_15 v4_15 hM
            rw [mX4_bare_b15] at hM
            cases hM
          | succ n_15 ih_15 =>
            intro v3_15 v4_15 hM ls hl
            rw [mX4_bare_b15] at hM
            refine lv_iload hx hb dX4_bare_15 (lv_at hl 4 rfl) ?_
            refine lv_aload_n hx hb dX4_bare_17 rfl (lv_at hl 0 rfl) ?_
            refine va_get (D := (dC, dI)) (ci := 4) (v := .ref a_t_now) (C := RX4) (T := TX4) (N := 21) hx hb hU inlX4 hown hE.1 hP 0 rfl rfl 4 (by decide) (hU _ u_4_15) (fun _ h9 => h9) rfl dX4_bare_18 ?_
            refine lv_iconst (v := (0 : Int32)) hx hb dX4_bare_21 (by decide) ?_
            obtain ⟨g22, hM⟩ := rd_e hM
            refine va_iald hx hb hE.1 hP 1 0 rfl rfl g22 dX4_bare_22 ?_
            refine lv_icmp_ge (tgt := 89) hx hb dX4_bare_23 (by decide) (fun c23 => ?_) (fun c23 => ?_)
            · have hM := ite_t c23 hM
              refine lv_iload_n hx hb dX4_bare_89 rfl (lv_at hl 1 rfl) ?_
              refine lv_iload_n hx hb dX4_bare_90 rfl (lv_at hl 3 rfl) ?_
              refine lv_if_eq (tgt := 98) hx hb dX4_bare_91 (by decide) (fun c91 => ?_) (fun c91 => ?_)
              · have hM := ite_f (b2i_eq0 c91) hM
                refine lv_iconst (v := (0 : Int32)) hx hb dX4_bare_98 (by decide) ?_
                refine lv_iadd hx hb dX4_bare_99 ?_
                refine lv_istore_n (lv' := [(1, .int (v1_4 + (0 : Int32))), (0, .ref a_t), (2, .int v2_4), (3, .int (b2i v3_15)), (4, .int v4_15)]) hx hb dX4_bare_100 rfl hl (by decide) rfl (fun ls hl => ?_)
                refine lv_iinc (v := (v2_4 + (1 : Int32))) (lv' := [(2, .int (v2_4 + (1 : Int32))), (1, .int (v1_4 + (0 : Int32))), (0, .ref a_t), (3, .int (b2i v3_15)), (4, .int v4_15)]) hx hb dX4_bare_101 hl (k := 2) rfl rfl (by decide) rfl (fun ls hl => ?_)
                refine lv_goto (tgt := 4) hx hb dX4_bare_104 (by decide) ?_
                exact ih_4 (v1_4 + (0 : Int32)) (v2_4 + (1 : Int32)) hM ls (lv_sub hl [2, 1, 0] rfl)
              · have hM := ite_t (b2i_ne0 c91) hM
                refine lv_iconst (v := (1 : Int32)) hx hb dX4_bare_94 (by decide) ?_
                refine lv_goto (tgt := 99) hx hb dX4_bare_95 (by decide) ?_
                refine lv_iadd hx hb dX4_bare_99 ?_
                refine lv_istore_n (lv' := [(1, .int (v1_4 + (1 : Int32))), (0, .ref a_t), (2, .int v2_4), (3, .int (b2i v3_15)), (4, .int v4_15)]) hx hb dX4_bare_100 rfl hl (by decide) rfl (fun ls hl => ?_)
                refine lv_iinc (v := (v2_4 + (1 : Int32))) (lv' := [(2, .int (v2_4 + (1 : Int32))), (1, .int (v1_4 + (1 : Int32))), (0, .ref a_t), (3, .int (b2i v3_15)), (4, .int v4_15)]) hx hb dX4_bare_101 hl (k := 2) rfl rfl (by decide) rfl (fun ls hl => ?_)
                refine lv_goto (tgt := 4) hx hb dX4_bare_104 (by decide) ?_
                exact ih_4 (v1_4 + (1 : Int32)) (v2_4 + (1 : Int32)) hM ls (lv_sub hl [2, 1, 0] rfl)
            · have hM := ite_f c23 hM
              refine lv_iconst (v := (1 : Int32)) hx hb dX4_bare_26 (by decide) ?_
              refine lv_iconst (v := (5 : Int32)) hx hb dX4_bare_27 (by decide) ?_
              refine lv_iload hx hb dX4_bare_28 (lv_at hl 4 rfl) ?_
              refine lv_imul hx hb dX4_bare_30 ?_
              refine lv_iadd hx hb dX4_bare_31 ?_
              refine lv_istore (lv' := [(5, .int ((1 : Int32) + ((5 : Int32) * v4_15))), (0, .ref a_t), (1, .int v1_4), (2, .int v2_4), (3, .int (b2i v3_15)), (4, .int v4_15)]) hx hb dX4_bare_32 hl (by decide) rfl (fun ls hl => ?_)
              refine lv_iload_n hx hb dX4_bare_34 rfl (lv_at hl 4 rfl) ?_
              refine lv_if_eq (tgt := 81) hx hb dX4_bare_35 (by decide) (fun c35 => ?_) (fun c35 => ?_)
              · have hM := ite_f (b2i_eq0 c35) hM
                refine lv_iconst (v := (0 : Int32)) hx hb dX4_bare_81 (by decide) ?_
                refine lv_istore_n (lv' := [(3, .int (0 : Int32)), (5, .int ((1 : Int32) + ((5 : Int32) * v4_15))), (0, .ref a_t), (1, .int v1_4), (2, .int v2_4), (4, .int v4_15)]) hx hb dX4_bare_82 rfl hl (by decide) rfl (fun ls hl => ?_)
                refine lv_iinc (v := (v4_15 + (1 : Int32))) (lv' := [(4, .int (v4_15 + (1 : Int32))), (3, .int (0 : Int32)), (5, .int ((1 : Int32) + ((5 : Int32) * v4_15))), (0, .ref a_t), (1, .int v1_4), (2, .int v2_4)]) hx hb dX4_bare_83 hl (k := 5) rfl rfl (by decide) rfl (fun ls hl => ?_)
                refine lv_goto (tgt := 15) hx hb dX4_bare_86 (by decide) ?_
                exact ih_15 false (v4_15 + (1 : Int32)) hM ls (lv_sub hl [3, 4, 5, 1, 0] rfl)
              · have hM := ite_t (b2i_ne0 c35) hM
                refine lv_aload_n hx hb dX4_bare_38 rfl (lv_at hl 1 rfl) ?_
                refine lv_aload_n hx hb dX4_bare_39 rfl (lv_at hl 1 rfl) ?_
                refine va_get (D := (dC, dI)) (ci := 4) (v := .ref a_t_now) (C := RX4) (T := TX4) (N := 21) hx hb hU inlX4 hown hE.1 hP 0 rfl rfl 4 (by decide) (hU _ u_4_15) (fun _ h9 => h9) rfl dX4_bare_40 ?_
                refine lv_iload hx hb dX4_bare_43 (lv_at hl 5 rfl) ?_
                obtain ⟨x45, h45, hM⟩ := bind_e hM
                refine rdV (As := [.ref a_t_now, .int v4_15]) (rest := []) (st2 := [.int (b2i x45)]) ⟨hx, hb, hml, hown, hU⟩ hE (okX4_counts a_t a_t_text a_t_paper a_t_now a_t_trial a_t_diary a_t_kept a_t_isKept a_t_seenAt a_t_worth a_t_readPaper a_t_read a_t_now s_t s_t_now s_t_paper v4_15 x45 h45) lk_X4_131 (hP.sub [0, 1, 2] rfl) rfl rfl rfl hl.1 rfl (Nat.le_of_ble_eq_true rfl) ⟨Nat.le_of_ble_eq_true rfl, Nat.le_of_ble_eq_true rfl⟩ dX4_bare_45 ⟨Nat.le_refl _, Nat.le_refl _⟩ rfl ?_
                refine lv_if_eq (tgt := 77) hx hb dX4_bare_48 (by decide) (fun c48 => ?_) (fun c48 => ?_)
                · have hM := ite_f (b2i_eq0 c48) hM
                  refine lv_iconst (v := (1 : Int32)) hx hb dX4_bare_77 (by decide) ?_
                  refine lv_goto (tgt := 82) hx hb dX4_bare_78 (by decide) ?_
                  refine lv_istore_n (lv' := [(3, .int (1 : Int32)), (5, .int ((1 : Int32) + ((5 : Int32) * v4_15))), (0, .ref a_t), (1, .int v1_4), (2, .int v2_4), (4, .int v4_15)]) hx hb dX4_bare_82 rfl hl (by decide) rfl (fun ls hl => ?_)
                  refine lv_iinc (v := (v4_15 + (1 : Int32))) (lv' := [(4, .int (v4_15 + (1 : Int32))), (3, .int (1 : Int32)), (5, .int ((1 : Int32) + ((5 : Int32) * v4_15))), (0, .ref a_t), (1, .int v1_4), (2, .int v2_4)]) hx hb dX4_bare_83 hl (k := 5) rfl rfl (by decide) rfl (fun ls hl => ?_)
                  refine lv_goto (tgt := 15) hx hb dX4_bare_86 (by decide) ?_
                  exact ih_15 true (v4_15 + (1 : Int32)) hM ls (lv_sub hl [3, 4, 5, 1, 0] rfl)
                · have hM := ite_t (b2i_ne0 c48) hM
                  refine lv_iload_n hx hb dX4_bare_51 rfl (lv_at hl 3 rfl) ?_
                  refine lv_iconst (v := (5 : Int32)) hx hb dX4_bare_52 (by decide) ?_
                  refine lv_aload_n hx hb dX4_bare_53 rfl (lv_at hl 1 rfl) ?_
                  refine va_get (D := (dC, dI)) (ci := 4) (v := .ref a_t_now) (C := RX4) (T := TX4) (N := 21) hx hb hU inlX4 hown hE.1 hP 0 rfl rfl 4 (by decide) (hU _ u_4_15) (fun _ h9 => h9) rfl dX4_bare_54 ?_
                  refine lv_iload hx hb dX4_bare_57 (lv_at hl 0 rfl) ?_
                  refine lv_iconst (v := (2 : Int32)) hx hb dX4_bare_59 (by decide) ?_
                  refine lv_iadd hx hb dX4_bare_60 ?_
                  obtain ⟨g61, hM⟩ := rd_e hM
                  refine va_iald hx hb hE.1 hP 1 0 rfl rfl g61 dX4_bare_61 ?_
                  refine lv_aload_n hx hb dX4_bare_62 rfl (lv_at hl 1 rfl) ?_
                  refine va_get (D := (dC, dI)) (ci := 4) (v := .ref a_t_now) (C := RX4) (T := TX4) (N := 21) hx hb hU inlX4 hown hE.1 hP 0 rfl rfl 4 (by decide) (hU _ u_4_15) (fun _ h9 => h9) rfl dX4_bare_63 ?_
                  refine lv_iload hx hb dX4_bare_66 (lv_at hl 0 rfl) ?_
                  refine lv_iconst (v := (3 : Int32)) hx hb dX4_bare_68 (by decide) ?_
                  refine lv_iadd hx hb dX4_bare_69 ?_
                  obtain ⟨g70, hM⟩ := rd_e hM
                  refine va_iald hx hb hE.1 hP 1 0 rfl rfl g70 dX4_bare_70 ?_
                  obtain ⟨x71, h71, hM⟩ := bind_e hM
                  refine rdS (As := [.int v2_4, .int (5 : Int32), .int (s_t_now (((1 : Int32) + ((5 : Int32) * v4_15)) + (2 : Int32)).toNatClampNeg), .int (s_t_now (((1 : Int32) + ((5 : Int32) * v4_15)) + (3 : Int32)).toNatClampNeg)]) (rest := []) (st2 := [.int (b2i x71)]) ⟨hx, hb, hml, hown, hU⟩ hE (okX4_isWithin v2_4 (5 : Int32) (s_t_now (((1 : Int32) + ((5 : Int32) * v4_15)) + (2 : Int32)).toNatClampNeg) (s_t_now (((1 : Int32) + ((5 : Int32) * v4_15)) + (3 : Int32)).toNatClampNeg) x71 h71) lk_X4_123 (hP.sub [] rfl) rfl hl.1 rfl (Nat.le_of_ble_eq_true rfl) ⟨Nat.le_of_ble_eq_true rfl, Nat.le_of_ble_eq_true rfl⟩ dX4_bare_71 ⟨Nat.le_refl _, Nat.le_refl _⟩ rfl ?_
                  refine lv_if_ne (tgt := 81) hx hb dX4_bare_74 (by decide) (fun c74 => ?_) (fun c74 => ?_)
                  · have hM := ite_t (b2i_ne0 c74) hM
                    refine lv_iconst (v := (0 : Int32)) hx hb dX4_bare_81 (by decide) ?_
                    refine lv_istore_n (lv' := [(3, .int (0 : Int32)), (5, .int ((1 : Int32) + ((5 : Int32) * v4_15))), (0, .ref a_t), (1, .int v1_4), (2, .int v2_4), (4, .int v4_15)]) hx hb dX4_bare_82 rfl hl (by decide) rfl (fun ls hl => ?_)
                    refine lv_iinc (v := (v4_15 + (1 : Int32))) (lv' := [(4, .int (v4_15 + (1 : Int32))), (3, .int (0 : Int32)), (5, .int ((1 : Int32) + ((5 : Int32) * v4_15))), (0, .ref a_t), (1, .int v1_4), (2, .int v2_4)]) hx hb dX4_bare_83 hl (k := 5) rfl rfl (by decide) rfl (fun ls hl => ?_)
                    refine lv_goto (tgt := 15) hx hb dX4_bare_86 (by decide) ?_
                    exact ih_15 false (v4_15 + (1 : Int32)) hM ls (lv_sub hl [3, 4, 5, 1, 0] rfl)
                  · have hM := ite_f (b2i_eq0 c74) hM
                    refine lv_iconst (v := (1 : Int32)) hx hb dX4_bare_77 (by decide) ?_
                    refine lv_goto (tgt := 82) hx hb dX4_bare_78 (by decide) ?_
                    refine lv_istore_n (lv' := [(3, .int (1 : Int32)), (5, .int ((1 : Int32) + ((5 : Int32) * v4_15))), (0, .ref a_t), (1, .int v1_4), (2, .int v2_4), (4, .int v4_15)]) hx hb dX4_bare_82 rfl hl (by decide) rfl (fun ls hl => ?_)
                    refine lv_iinc (v := (v4_15 + (1 : Int32))) (lv' := [(4, .int (v4_15 + (1 : Int32))), (3, .int (1 : Int32)), (5, .int ((1 : Int32) + ((5 : Int32) * v4_15))), (0, .ref a_t), (1, .int v1_4), (2, .int v2_4)]) hx hb dX4_bare_83 hl (k := 5) rfl rfl (by decide) rfl (fun ls hl => ?_)
                    refine lv_goto (tgt := 15) hx hb dX4_bare_86 (by decide) ?_
                    exact ih_15 true (v4_15 + (1 : Int32)) hM ls (lv_sub hl [3, 4, 5, 1, 0] rfl)
        exact w_15 FU true (0 : Int32) hM ls (lv_sub hl [2, 3, 4, 1, 0] rfl)
  exact w_4 FU (0 : Int32) (0 : Int32) hM ls (lv_sub hl [2, 1, 0] rfl)
noncomputable def mX4_standing_b4 (s_t : Int32 × Int32 × Int32 × Int32 × Int32 × Int32 × Int32 × Int32 × Int32 × Int64) (s_t_paper : Nat → Int32) (s_t_now : Nat → Int32) : Nat → Int32 → Int32 → Option (Int32)
  | 0, _, _ => none
  | n + 1, v1, v2 => (if s_t.2.1 ≤ v2 then some (v1) else (mX4_stands s_t_paper s_t_now v2).bind (fun x19 => (if x19 = true then mX4_standing_b4 s_t s_t_paper s_t_now n (v1 ||| ((1 : Int32) <<< (v2 &&& 31))) (v2 + (1 : Int32)) else mX4_standing_b4 s_t s_t_paper s_t_now n (v1 ||| (0 : Int32)) (v2 + (1 : Int32)))))
noncomputable def mX4_standing (s_t : Int32 × Int32 × Int32 × Int32 × Int32 × Int32 × Int32 × Int32 × Int32 × Int64) (s_t_paper : Nat → Int32) (s_t_now : Nat → Int32) : Option (Int32) := mX4_standing_b4 s_t s_t_paper s_t_now FU (0 : Int32) (0 : Int32)
set_option maxHeartbeats 4000000 in
set_option maxRecDepth 100000 in
theorem okX4_standing {l : Launch} {dC : Nat → ClassId} {dI : Nat → Nat → Nat} {cI cC cZ : ClassId} (a_t a_t_text a_t_paper a_t_now a_t_trial a_t_diary a_t_kept a_t_isKept a_t_seenAt a_t_worth a_t_readPaper a_t_read : Nat) (s_t : Int32 × Int32 × Int32 × Int32 × Int32 × Int32 × Int32 × Int32 × Int32 × Int64) (s_t_paper : Nat → Int32) (s_t_now : Nat → Int32) (res : Int32) (hM : mX4_standing s_t s_t_paper s_t_now = some res) : Rd l yX4_standing cX4_standing 3 (some .int) 3 69 (dC, dI) cI cC cZ [(a_t, .inr (4, [.ref a_t_text, .int s_t.1, .int s_t.2.1, .ref a_t_paper, .ref a_t_now, .ref a_t_trial, .ref a_t_diary, .int s_t.2.2.1, .int s_t.2.2.2.1, .ref a_t_kept, .ref a_t_isKept, .ref a_t_seenAt, .int s_t.2.2.2.2.1, .long s_t.2.2.2.2.2.2.2.2.2, .ref a_t_worth, .int s_t.2.2.2.2.2.1, .int s_t.2.2.2.2.2.2.1, .ref a_t_readPaper, .ref a_t_read, .int s_t.2.2.2.2.2.2.2.1, .int s_t.2.2.2.2.2.2.2.2.1])), (a_t_paper, .inl (cI, 24, .inl s_t_paper)), (a_t_now, .inl (cI, 66, .inl s_t_now))] [.ref a_t] (some (.int res)) := by
  refine Rd.ofI (by decide) (Nat.le_of_ble_eq_true rfl) [(0, .ref a_t)] rfl ?_
  intro p e s m args below meth c ls Q hx hb hml hown hU hE hP rt hl
  have hown : s.vm.findClass RX4 = some m.cls := hown
  unfold mX4_standing at hM
  refine lv_iconst (v := (0 : Int32)) hx hb dX4_standing_0 (by decide) ?_
  refine lv_istore_n (lv' := [(1, .int (0 : Int32)), (0, .ref a_t)]) hx hb dX4_standing_1 rfl hl (by decide) rfl (fun ls hl => ?_)
  refine lv_iconst (v := (0 : Int32)) hx hb dX4_standing_2 (by decide) ?_
  refine lv_istore_n (lv' := [(2, .int (0 : Int32)), (1, .int (0 : Int32)), (0, .ref a_t)]) hx hb dX4_standing_3 rfl hl (by decide) rfl (fun ls hl => ?_)
  have w_4 : ∀ (n : Nat) (v1_4 : Int32) (v2_4 : Int32), mX4_standing_b4 s_t s_t_paper s_t_now n v1_4 v2_4 = some res → ∀ (ls : Array Slot), lv_has ls 3 [(0, .ref a_t), (1, .int v1_4), (2, .int v2_4)] → W p l e (RM 3 69) s m args below meth c s.heap [] 0 0 Q (F0 m 4 ls []) := by
    intro n
    induction n with
    | zero =>
      intro v1_4 v2_4 hM
      rw [mX4_standing_b4] at hM
      cases hM
    | succ n_4 ih_4 =>
      intro v1_4 v2_4 hM ls hl
      rw [mX4_standing_b4] at hM
      refine lv_iload_n hx hb dX4_standing_4 rfl (lv_at hl 2 rfl) ?_
      refine lv_aload_n hx hb dX4_standing_5 rfl (lv_at hl 0 rfl) ?_
      refine va_get (D := (dC, dI)) (ci := 4) (v := .int s_t.2.1) (C := RX4) (T := TX4) (N := 21) hx hb hU inlX4 hown hE.1 hP 0 rfl rfl 2 (by decide) (hU _ u_5_1) (fun _ h9 => h9) rfl dX4_standing_6 ?_
      refine lv_icmp_ge (tgt := 40) hx hb dX4_standing_9 (by decide) (fun c9 => ?_) (fun c9 => ?_)
      · have hM := ite_t c9 hM
        refine lv_iload_n hx hb dX4_standing_40 rfl (lv_at hl 1 rfl) ?_
        cases hM
        exact rt _ _ _ dX4_standing_41 rfl
      · have hM := ite_f c9 hM
        refine lv_iload_n hx hb dX4_standing_12 rfl (lv_at hl 1 rfl) ?_
        refine lv_aload_n hx hb dX4_standing_13 rfl (lv_at hl 0 rfl) ?_
        refine lv_aload_n hx hb dX4_standing_14 rfl (lv_at hl 0 rfl) ?_
        refine va_get (D := (dC, dI)) (ci := 4) (v := .ref a_t_now) (C := RX4) (T := TX4) (N := 21) hx hb hU inlX4 hown hE.1 hP 0 rfl rfl 4 (by decide) (hU _ u_4_15) (fun _ h9 => h9) rfl dX4_standing_15 ?_
        refine lv_iload_n hx hb dX4_standing_18 rfl (lv_at hl 2 rfl) ?_
        obtain ⟨x19, h19, hM⟩ := bind_e hM
        refine rdV (As := [.ref a_t_now, .int v2_4]) (rest := [.int v1_4]) (st2 := [.int (b2i x19), .int v1_4]) ⟨hx, hb, hml, hown, hU⟩ hE (okX4_stands a_t a_t_text a_t_paper a_t_now a_t_trial a_t_diary a_t_kept a_t_isKept a_t_seenAt a_t_worth a_t_readPaper a_t_read a_t_now s_t s_t_paper s_t_now v2_4 x19 h19) lk_X4_127 (hP.sub [0, 1, 2] rfl) rfl rfl rfl hl.1 rfl (Nat.le_of_ble_eq_true rfl) ⟨Nat.le_of_ble_eq_true rfl, Nat.le_of_ble_eq_true rfl⟩ dX4_standing_19 ⟨Nat.le_refl _, Nat.le_refl _⟩ rfl ?_
        refine lv_if_eq (tgt := 31) hx hb dX4_standing_22 (by decide) (fun c22 => ?_) (fun c22 => ?_)
        · have hM := ite_f (b2i_eq0 c22) hM
          refine lv_iconst (v := (0 : Int32)) hx hb dX4_standing_31 (by decide) ?_
          refine lv_ior hx hb dX4_standing_32 ?_
          refine lv_istore_n (lv' := [(1, .int (v1_4 ||| (0 : Int32))), (0, .ref a_t), (2, .int v2_4)]) hx hb dX4_standing_33 rfl hl (by decide) rfl (fun ls hl => ?_)
          refine lv_iinc (v := (v2_4 + (1 : Int32))) (lv' := [(2, .int (v2_4 + (1 : Int32))), (1, .int (v1_4 ||| (0 : Int32))), (0, .ref a_t)]) hx hb dX4_standing_34 hl (k := 2) rfl rfl (by decide) rfl (fun ls hl => ?_)
          refine lv_goto (tgt := 4) hx hb dX4_standing_37 (by decide) ?_
          exact ih_4 (v1_4 ||| (0 : Int32)) (v2_4 + (1 : Int32)) hM ls (lv_sub hl [2, 1, 0] rfl)
        · have hM := ite_t (b2i_ne0 c22) hM
          refine lv_iconst (v := (1 : Int32)) hx hb dX4_standing_25 (by decide) ?_
          refine lv_iload_n hx hb dX4_standing_26 rfl (lv_at hl 2 rfl) ?_
          refine lv_ishl hx hb dX4_standing_27 ?_
          refine lv_goto (tgt := 32) hx hb dX4_standing_28 (by decide) ?_
          refine lv_ior hx hb dX4_standing_32 ?_
          refine lv_istore_n (lv' := [(1, .int (v1_4 ||| ((1 : Int32) <<< (v2_4 &&& 31)))), (0, .ref a_t), (2, .int v2_4)]) hx hb dX4_standing_33 rfl hl (by decide) rfl (fun ls hl => ?_)
          refine lv_iinc (v := (v2_4 + (1 : Int32))) (lv' := [(2, .int (v2_4 + (1 : Int32))), (1, .int (v1_4 ||| ((1 : Int32) <<< (v2_4 &&& 31)))), (0, .ref a_t)]) hx hb dX4_standing_34 hl (k := 2) rfl rfl (by decide) rfl (fun ls hl => ?_)
          refine lv_goto (tgt := 4) hx hb dX4_standing_37 (by decide) ?_
          exact ih_4 (v1_4 ||| ((1 : Int32) <<< (v2_4 &&& 31))) (v2_4 + (1 : Int32)) hM ls (lv_sub hl [2, 1, 0] rfl)
  exact w_4 FU (0 : Int32) (0 : Int32) hM ls (lv_sub hl [2, 1, 0] rfl)
noncomputable def mX4_stateBy_b6 (s_q1 : Nat → Int32) (s_t_paper : Nat → Int32) (v2 : Int32) (v3 : Int32) (v4 : Int32) (v5 : Int32) : Nat → Int32 → Int32 → Option (Int32)
  | 0, _, _ => none
  | n + 1, v6, v7 => rd s_q1 66 (0 : Int32) (fun x10 => (if x10 ≤ v7 then some (v6) else (mX4_has v5 v7).bind (fun x26 => (if x26 = true then (if (2 : Int32) ≤ v6 then mX4_stateBy_b6 s_q1 s_t_paper v2 v3 v4 v5 n v6 (v7 + (1 : Int32)) else (mX4_counts s_q1 s_t_paper v7).bind (fun x42 => (if x42 = true then rd s_q1 66 (((1 : Int32) + ((5 : Int32) * v7)) + (2 : Int32)) (fun x55 => rd s_q1 66 (((1 : Int32) + ((5 : Int32) * v7)) + (3 : Int32)) (fun x61 => (mX4_isWithin v2 v3 x55 x61).bind (fun x62 => (if x62 = true then rd s_q1 66 (((1 : Int32) + ((5 : Int32) * v7)) + (1 : Int32)) (fun x73 => (if x73 = v4 then rd s_q1 66 (((1 : Int32) + ((5 : Int32) * v7)) + (4 : Int32)) (fun x84 => (if x84 < v3 then mX4_stateBy_b6 s_q1 s_t_paper v2 v3 v4 v5 n (0 : Int32) (v7 + (1 : Int32)) else mX4_stateBy_b6 s_q1 s_t_paper v2 v3 v4 v5 n (2 : Int32) (v7 + (1 : Int32)))) else mX4_stateBy_b6 s_q1 s_t_paper v2 v3 v4 v5 n (0 : Int32) (v7 + (1 : Int32)))) else mX4_stateBy_b6 s_q1 s_t_paper v2 v3 v4 v5 n v6 (v7 + (1 : Int32)))))) else mX4_stateBy_b6 s_q1 s_t_paper v2 v3 v4 v5 n v6 (v7 + (1 : Int32))))) else mX4_stateBy_b6 s_q1 s_t_paper v2 v3 v4 v5 n v6 (v7 + (1 : Int32))))))
noncomputable def mX4_stateBy (s_q1 : Nat → Int32) (s_t_paper : Nat → Int32) (v2 : Int32) (v3 : Int32) (v4 : Int32) (v5 : Int32) : Option (Int32) := mX4_stateBy_b6 s_q1 s_t_paper v2 v3 v4 v5 FU (1 : Int32) (0 : Int32)
set_option maxHeartbeats 4000000 in
set_option maxRecDepth 100000 in
theorem okX4_stateBy {l : Launch} {dC : Nat → ClassId} {dI : Nat → Nat → Nat} {cI cC cZ : ClassId} (a_t a_t_text a_t_paper a_t_now a_t_trial a_t_diary a_t_kept a_t_isKept a_t_seenAt a_t_worth a_t_readPaper a_t_read a_q1 : Nat) (s_t : Int32 × Int32 × Int32 × Int32 × Int32 × Int32 × Int32 × Int32 × Int32 × Int64) (s_q1 : Nat → Int32) (s_t_paper : Nat → Int32) (v2 : Int32) (v3 : Int32) (v4 : Int32) (v5 : Int32) (res : Int32) (hM : mX4_stateBy s_q1 s_t_paper v2 v3 v4 v5 = some res) : Rd l yX4_stateBy cX4_stateBy 9 (some .int) 4 93 (dC, dI) cI cC cZ [(a_t, .inr (4, [.ref a_t_text, .int s_t.1, .int s_t.2.1, .ref a_t_paper, .ref a_t_now, .ref a_t_trial, .ref a_t_diary, .int s_t.2.2.1, .int s_t.2.2.2.1, .ref a_t_kept, .ref a_t_isKept, .ref a_t_seenAt, .int s_t.2.2.2.2.1, .long s_t.2.2.2.2.2.2.2.2.2, .ref a_t_worth, .int s_t.2.2.2.2.2.1, .int s_t.2.2.2.2.2.2.1, .ref a_t_readPaper, .ref a_t_read, .int s_t.2.2.2.2.2.2.2.1, .int s_t.2.2.2.2.2.2.2.2.1])), (a_q1, .inl (cI, 66, .inl s_q1)), (a_t_paper, .inl (cI, 24, .inl s_t_paper))] [.ref a_t, .ref a_q1, .int v2, .int v3, .int v4, .int v5] (some (.int res)) := by
  refine Rd.ofI (by decide) (Nat.le_of_ble_eq_true rfl) [(0, .ref a_t), (1, .ref a_q1), (2, .int v2), (3, .int v3), (4, .int v4), (5, .int v5)] rfl ?_
  intro p e s m args below meth c ls Q hx hb hml hown hU hE hP rt hl
  have hown : s.vm.findClass RX4 = some m.cls := hown
  unfold mX4_stateBy at hM
  refine lv_iconst (v := (1 : Int32)) hx hb dX4_stateBy_0 (by decide) ?_
  refine lv_istore (lv' := [(6, .int (1 : Int32)), (0, .ref a_t), (1, .ref a_q1), (2, .int v2), (3, .int v3), (4, .int v4), (5, .int v5)]) hx hb dX4_stateBy_1 hl (by decide) rfl (fun ls hl => ?_)
  refine lv_iconst (v := (0 : Int32)) hx hb dX4_stateBy_3 (by decide) ?_
  refine lv_istore (lv' := [(7, .int (0 : Int32)), (6, .int (1 : Int32)), (0, .ref a_t), (1, .ref a_q1), (2, .int v2), (3, .int v3), (4, .int v4), (5, .int v5)]) hx hb dX4_stateBy_4 hl (by decide) rfl (fun ls hl => ?_)
  have w_6 : ∀ (n : Nat) (v6_6 : Int32) (v7_6 : Int32), mX4_stateBy_b6 s_q1 s_t_paper v2 v3 v4 v5 n v6_6 v7_6 = some res → ∀ (ls : Array Slot), lv_has ls 9 [(0, .ref a_t), (1, .ref a_q1), (2, .int v2), (3, .int v3), (4, .int v4), (5, .int v5), (6, .int v6_6), (7, .int v7_6)] → W p l e (RM 4 93) s m args below meth c s.heap [] 0 0 Q (F0 m 6 ls []) := by
    intro n
    induction n with
    | zero =>
      intro v6_6 v7_6 hM
      rw [mX4_stateBy_b6] at hM
      cases hM
    | succ n_6 ih_6 =>
      intro v6_6 v7_6 hM ls hl
      rw [mX4_stateBy_b6] at hM
      refine lv_iload hx hb dX4_stateBy_6 (lv_at hl 7 rfl) ?_
      refine lv_aload_n hx hb dX4_stateBy_8 rfl (lv_at hl 1 rfl) ?_
      refine lv_iconst (v := (0 : Int32)) hx hb dX4_stateBy_9 (by decide) ?_
      obtain ⟨g10, hM⟩ := rd_e hM
      refine va_iald hx hb hE.1 hP 1 0 rfl rfl g10 dX4_stateBy_10 ?_
      refine lv_icmp_ge (tgt := 102) hx hb dX4_stateBy_11 (by decide) (fun c11 => ?_) (fun c11 => ?_)
      · have hM := ite_t c11 hM
        refine lv_iload hx hb dX4_stateBy_102 (lv_at hl 6 rfl) ?_
        cases hM
        exact rt _ _ _ dX4_stateBy_104 rfl
      · have hM := ite_f c11 hM
        refine lv_iconst (v := (1 : Int32)) hx hb dX4_stateBy_14 (by decide) ?_
        refine lv_iconst (v := (5 : Int32)) hx hb dX4_stateBy_15 (by decide) ?_
        refine lv_iload hx hb dX4_stateBy_16 (lv_at hl 7 rfl) ?_
        refine lv_imul hx hb dX4_stateBy_18 ?_
        refine lv_iadd hx hb dX4_stateBy_19 ?_
        refine lv_istore (lv' := [(8, .int ((1 : Int32) + ((5 : Int32) * v7_6))), (0, .ref a_t), (1, .ref a_q1), (2, .int v2), (3, .int v3), (4, .int v4), (5, .int v5), (6, .int v6_6), (7, .int v7_6)]) hx hb dX4_stateBy_20 hl (by decide) rfl (fun ls hl => ?_)
        refine lv_iload hx hb dX4_stateBy_22 (lv_at hl 6 rfl) ?_
        refine lv_iload hx hb dX4_stateBy_24 (lv_at hl 8 rfl) ?_
        obtain ⟨x26, h26, hM⟩ := bind_e hM
        refine rdS (As := [.int v5, .int v7_6]) (rest := []) (st2 := [.int (b2i x26)]) ⟨hx, hb, hml, hown, hU⟩ hE (okX4_has v5 v7_6 x26 h26) lk_X4_120 (hP.sub [] rfl) rfl hl.1 rfl (Nat.le_of_ble_eq_true rfl) ⟨Nat.le_of_ble_eq_true rfl, Nat.le_of_ble_eq_true rfl⟩ dX4_stateBy_26 ⟨Nat.le_refl _, Nat.le_refl _⟩ rfl ?_
        refine lv_if_eq (tgt := 96) hx hb dX4_stateBy_29 (by decide) (fun c29 => ?_) (fun c29 => ?_)
        · have hM := ite_f (b2i_eq0 c29) hM
          refine lv_iinc (v := (v7_6 + (1 : Int32))) (lv' := [(7, .int (v7_6 + (1 : Int32))), (8, .int ((1 : Int32) + ((5 : Int32) * v7_6))), (0, .ref a_t), (1, .ref a_q1), (2, .int v2), (3, .int v3), (4, .int v4), (5, .int v5), (6, .int v6_6)]) hx hb dX4_stateBy_96 hl (k := 8) rfl rfl (by decide) rfl (fun ls hl => ?_)
          refine lv_goto (tgt := 6) hx hb dX4_stateBy_99 (by decide) ?_
          exact ih_6 v6_6 (v7_6 + (1 : Int32)) hM ls (lv_sub hl [2, 3, 4, 5, 6, 7, 8, 0] rfl)
        · have hM := ite_t (b2i_ne0 c29) hM
          refine lv_iload hx hb dX4_stateBy_32 (lv_at hl 7 rfl) ?_
          refine lv_iconst (v := (2 : Int32)) hx hb dX4_stateBy_34 (by decide) ?_
          refine lv_icmp_ge (tgt := 96) hx hb dX4_stateBy_35 (by decide) (fun c35 => ?_) (fun c35 => ?_)
          · have hM := ite_t c35 hM
            refine lv_iinc (v := (v7_6 + (1 : Int32))) (lv' := [(7, .int (v7_6 + (1 : Int32))), (8, .int ((1 : Int32) + ((5 : Int32) * v7_6))), (0, .ref a_t), (1, .ref a_q1), (2, .int v2), (3, .int v3), (4, .int v4), (5, .int v5), (6, .int v6_6)]) hx hb dX4_stateBy_96 hl (k := 8) rfl rfl (by decide) rfl (fun ls hl => ?_)
            refine lv_goto (tgt := 6) hx hb dX4_stateBy_99 (by decide) ?_
            exact ih_6 v6_6 (v7_6 + (1 : Int32)) hM ls (lv_sub hl [2, 3, 4, 5, 6, 7, 8, 0] rfl)
          · have hM := ite_f c35 hM
            refine lv_aload_n hx hb dX4_stateBy_38 rfl (lv_at hl 1 rfl) ?_
            refine lv_aload_n hx hb dX4_stateBy_39 rfl (lv_at hl 2 rfl) ?_
            refine lv_iload hx hb dX4_stateBy_40 (lv_at hl 8 rfl) ?_
            obtain ⟨x42, h42, hM⟩ := bind_e hM
            refine rdV (As := [.ref a_q1, .int v7_6]) (rest := []) (st2 := [.int (b2i x42)]) ⟨hx, hb, hml, hown, hU⟩ hE (okX4_counts a_t a_t_text a_t_paper a_t_now a_t_trial a_t_diary a_t_kept a_t_isKept a_t_seenAt a_t_worth a_t_readPaper a_t_read a_q1 s_t s_q1 s_t_paper v7_6 x42 h42) lk_X4_131 (hP.sub [0, 1, 2] rfl) rfl rfl rfl hl.1 rfl (Nat.le_of_ble_eq_true rfl) ⟨Nat.le_of_ble_eq_true rfl, Nat.le_of_ble_eq_true rfl⟩ dX4_stateBy_42 ⟨Nat.le_refl _, Nat.le_refl _⟩ rfl ?_
            refine lv_if_eq (tgt := 96) hx hb dX4_stateBy_45 (by decide) (fun c45 => ?_) (fun c45 => ?_)
            · have hM := ite_f (b2i_eq0 c45) hM
              refine lv_iinc (v := (v7_6 + (1 : Int32))) (lv' := [(7, .int (v7_6 + (1 : Int32))), (8, .int ((1 : Int32) + ((5 : Int32) * v7_6))), (0, .ref a_t), (1, .ref a_q1), (2, .int v2), (3, .int v3), (4, .int v4), (5, .int v5), (6, .int v6_6)]) hx hb dX4_stateBy_96 hl (k := 8) rfl rfl (by decide) rfl (fun ls hl => ?_)
              refine lv_goto (tgt := 6) hx hb dX4_stateBy_99 (by decide) ?_
              exact ih_6 v6_6 (v7_6 + (1 : Int32)) hM ls (lv_sub hl [2, 3, 4, 5, 6, 7, 8, 0] rfl)
            · have hM := ite_t (b2i_ne0 c45) hM
              refine lv_iload_n hx hb dX4_stateBy_48 rfl (lv_at hl 3 rfl) ?_
              refine lv_iload_n hx hb dX4_stateBy_49 rfl (lv_at hl 4 rfl) ?_
              refine lv_aload_n hx hb dX4_stateBy_50 rfl (lv_at hl 2 rfl) ?_
              refine lv_iload hx hb dX4_stateBy_51 (lv_at hl 0 rfl) ?_
              refine lv_iconst (v := (2 : Int32)) hx hb dX4_stateBy_53 (by decide) ?_
              refine lv_iadd hx hb dX4_stateBy_54 ?_
              obtain ⟨g55, hM⟩ := rd_e hM
              refine va_iald hx hb hE.1 hP 1 0 rfl rfl g55 dX4_stateBy_55 ?_
              refine lv_aload_n hx hb dX4_stateBy_56 rfl (lv_at hl 2 rfl) ?_
              refine lv_iload hx hb dX4_stateBy_57 (lv_at hl 0 rfl) ?_
              refine lv_iconst (v := (3 : Int32)) hx hb dX4_stateBy_59 (by decide) ?_
              refine lv_iadd hx hb dX4_stateBy_60 ?_
              obtain ⟨g61, hM⟩ := rd_e hM
              refine va_iald hx hb hE.1 hP 1 0 rfl rfl g61 dX4_stateBy_61 ?_
              obtain ⟨x62, h62, hM⟩ := bind_e hM
              refine rdS (As := [.int v2, .int v3, .int (s_q1 (((1 : Int32) + ((5 : Int32) * v7_6)) + (2 : Int32)).toNatClampNeg), .int (s_q1 (((1 : Int32) + ((5 : Int32) * v7_6)) + (3 : Int32)).toNatClampNeg)]) (rest := []) (st2 := [.int (b2i x62)]) ⟨hx, hb, hml, hown, hU⟩ hE (okX4_isWithin v2 v3 (s_q1 (((1 : Int32) + ((5 : Int32) * v7_6)) + (2 : Int32)).toNatClampNeg) (s_q1 (((1 : Int32) + ((5 : Int32) * v7_6)) + (3 : Int32)).toNatClampNeg) x62 h62) lk_X4_123 (hP.sub [] rfl) rfl hl.1 rfl (Nat.le_of_ble_eq_true rfl) ⟨Nat.le_of_ble_eq_true rfl, Nat.le_of_ble_eq_true rfl⟩ dX4_stateBy_62 ⟨Nat.le_refl _, Nat.le_refl _⟩ rfl ?_
              refine lv_if_eq (tgt := 96) hx hb dX4_stateBy_65 (by decide) (fun c65 => ?_) (fun c65 => ?_)
              · have hM := ite_f (b2i_eq0 c65) hM
                refine lv_iinc (v := (v7_6 + (1 : Int32))) (lv' := [(7, .int (v7_6 + (1 : Int32))), (8, .int ((1 : Int32) + ((5 : Int32) * v7_6))), (0, .ref a_t), (1, .ref a_q1), (2, .int v2), (3, .int v3), (4, .int v4), (5, .int v5), (6, .int v6_6)]) hx hb dX4_stateBy_96 hl (k := 8) rfl rfl (by decide) rfl (fun ls hl => ?_)
                refine lv_goto (tgt := 6) hx hb dX4_stateBy_99 (by decide) ?_
                exact ih_6 v6_6 (v7_6 + (1 : Int32)) hM ls (lv_sub hl [2, 3, 4, 5, 6, 7, 8, 0] rfl)
              · have hM := ite_t (b2i_ne0 c65) hM
                refine lv_aload_n hx hb dX4_stateBy_68 rfl (lv_at hl 2 rfl) ?_
                refine lv_iload hx hb dX4_stateBy_69 (lv_at hl 0 rfl) ?_
                refine lv_iconst (v := (1 : Int32)) hx hb dX4_stateBy_71 (by decide) ?_
                refine lv_iadd hx hb dX4_stateBy_72 ?_
                obtain ⟨g73, hM⟩ := rd_e hM
                refine va_iald hx hb hE.1 hP 1 0 rfl rfl g73 dX4_stateBy_73 ?_
                refine lv_iload hx hb dX4_stateBy_74 (lv_at hl 5 rfl) ?_
                refine lv_icmp_ne (tgt := 93) hx hb dX4_stateBy_76 (by decide) (fun c76 => ?_) (fun c76 => ?_)
                · have hM := ite_f c76 hM
                  refine lv_iconst (v := (0 : Int32)) hx hb dX4_stateBy_93 (by decide) ?_
                  refine lv_istore (lv' := [(6, .int (0 : Int32)), (8, .int ((1 : Int32) + ((5 : Int32) * v7_6))), (0, .ref a_t), (1, .ref a_q1), (2, .int v2), (3, .int v3), (4, .int v4), (5, .int v5), (7, .int v7_6)]) hx hb dX4_stateBy_94 hl (by decide) rfl (fun ls hl => ?_)
                  refine lv_iinc (v := (v7_6 + (1 : Int32))) (lv' := [(7, .int (v7_6 + (1 : Int32))), (6, .int (0 : Int32)), (8, .int ((1 : Int32) + ((5 : Int32) * v7_6))), (0, .ref a_t), (1, .ref a_q1), (2, .int v2), (3, .int v3), (4, .int v4), (5, .int v5)]) hx hb dX4_stateBy_96 hl (k := 8) rfl rfl (by decide) rfl (fun ls hl => ?_)
                  refine lv_goto (tgt := 6) hx hb dX4_stateBy_99 (by decide) ?_
                  exact ih_6 (0 : Int32) (v7_6 + (1 : Int32)) hM ls (lv_sub hl [3, 4, 5, 6, 7, 8, 1, 0] rfl)
                · have hM := ite_t c76 hM
                  refine lv_aload_n hx hb dX4_stateBy_79 rfl (lv_at hl 2 rfl) ?_
                  refine lv_iload hx hb dX4_stateBy_80 (lv_at hl 0 rfl) ?_
                  refine lv_iconst (v := (4 : Int32)) hx hb dX4_stateBy_82 (by decide) ?_
                  refine lv_iadd hx hb dX4_stateBy_83 ?_
                  obtain ⟨g84, hM⟩ := rd_e hM
                  refine va_iald hx hb hE.1 hP 1 0 rfl rfl g84 dX4_stateBy_84 ?_
                  refine lv_iload_n hx hb dX4_stateBy_85 rfl (lv_at hl 4 rfl) ?_
                  refine lv_icmp_lt (tgt := 93) hx hb dX4_stateBy_86 (by decide) (fun c86 => ?_) (fun c86 => ?_)
                  · have hM := ite_t c86 hM
                    refine lv_iconst (v := (0 : Int32)) hx hb dX4_stateBy_93 (by decide) ?_
                    refine lv_istore (lv' := [(6, .int (0 : Int32)), (8, .int ((1 : Int32) + ((5 : Int32) * v7_6))), (0, .ref a_t), (1, .ref a_q1), (2, .int v2), (3, .int v3), (4, .int v4), (5, .int v5), (7, .int v7_6)]) hx hb dX4_stateBy_94 hl (by decide) rfl (fun ls hl => ?_)
                    refine lv_iinc (v := (v7_6 + (1 : Int32))) (lv' := [(7, .int (v7_6 + (1 : Int32))), (6, .int (0 : Int32)), (8, .int ((1 : Int32) + ((5 : Int32) * v7_6))), (0, .ref a_t), (1, .ref a_q1), (2, .int v2), (3, .int v3), (4, .int v4), (5, .int v5)]) hx hb dX4_stateBy_96 hl (k := 8) rfl rfl (by decide) rfl (fun ls hl => ?_)
                    refine lv_goto (tgt := 6) hx hb dX4_stateBy_99 (by decide) ?_
                    exact ih_6 (0 : Int32) (v7_6 + (1 : Int32)) hM ls (lv_sub hl [3, 4, 5, 6, 7, 8, 1, 0] rfl)
                  · have hM := ite_f c86 hM
                    refine lv_iconst (v := (2 : Int32)) hx hb dX4_stateBy_89 (by decide) ?_
                    refine lv_goto (tgt := 94) hx hb dX4_stateBy_90 (by decide) ?_
                    refine lv_istore (lv' := [(6, .int (2 : Int32)), (8, .int ((1 : Int32) + ((5 : Int32) * v7_6))), (0, .ref a_t), (1, .ref a_q1), (2, .int v2), (3, .int v3), (4, .int v4), (5, .int v5), (7, .int v7_6)]) hx hb dX4_stateBy_94 hl (by decide) rfl (fun ls hl => ?_)
                    refine lv_iinc (v := (v7_6 + (1 : Int32))) (lv' := [(7, .int (v7_6 + (1 : Int32))), (6, .int (2 : Int32)), (8, .int ((1 : Int32) + ((5 : Int32) * v7_6))), (0, .ref a_t), (1, .ref a_q1), (2, .int v2), (3, .int v3), (4, .int v4), (5, .int v5)]) hx hb dX4_stateBy_96 hl (k := 8) rfl rfl (by decide) rfl (fun ls hl => ?_)
                    refine lv_goto (tgt := 6) hx hb dX4_stateBy_99 (by decide) ?_
                    exact ih_6 (2 : Int32) (v7_6 + (1 : Int32)) hM ls (lv_sub hl [3, 4, 5, 6, 7, 8, 1, 0] rfl)
  exact w_6 FU (1 : Int32) (0 : Int32) hM ls (lv_sub hl [2, 3, 4, 5, 6, 7, 1, 0] rfl)
noncomputable def mX4_stateOf (s_q1 : Nat → Int32) (s_t_paper : Nat → Int32) (v2 : Int32) (v3 : Int32) (v4 : Int32) : Option (Int32) := (mX4_stateBy s_q1 s_t_paper v2 v3 v4 (255 : Int32)).bind (fun x9 => some (x9))
set_option maxHeartbeats 4000000 in
set_option maxRecDepth 100000 in
theorem okX4_stateOf {l : Launch} {dC : Nat → ClassId} {dI : Nat → Nat → Nat} {cI cC cZ : ClassId} (a_t a_t_text a_t_paper a_t_now a_t_trial a_t_diary a_t_kept a_t_isKept a_t_seenAt a_t_worth a_t_readPaper a_t_read a_q1 : Nat) (s_t : Int32 × Int32 × Int32 × Int32 × Int32 × Int32 × Int32 × Int32 × Int32 × Int64) (s_q1 : Nat → Int32) (s_t_paper : Nat → Int32) (v2 : Int32) (v3 : Int32) (v4 : Int32) (res : Int32) (hM : mX4_stateOf s_q1 s_t_paper v2 v3 v4 = some res) : Rd l yX4_stateOf cX4_stateOf 5 (some .int) 5 121 (dC, dI) cI cC cZ [(a_t, .inr (4, [.ref a_t_text, .int s_t.1, .int s_t.2.1, .ref a_t_paper, .ref a_t_now, .ref a_t_trial, .ref a_t_diary, .int s_t.2.2.1, .int s_t.2.2.2.1, .ref a_t_kept, .ref a_t_isKept, .ref a_t_seenAt, .int s_t.2.2.2.2.1, .long s_t.2.2.2.2.2.2.2.2.2, .ref a_t_worth, .int s_t.2.2.2.2.2.1, .int s_t.2.2.2.2.2.2.1, .ref a_t_readPaper, .ref a_t_read, .int s_t.2.2.2.2.2.2.2.1, .int s_t.2.2.2.2.2.2.2.2.1])), (a_q1, .inl (cI, 66, .inl s_q1)), (a_t_paper, .inl (cI, 24, .inl s_t_paper))] [.ref a_t, .ref a_q1, .int v2, .int v3, .int v4] (some (.int res)) := by
  refine Rd.ofI (by decide) (Nat.le_of_ble_eq_true rfl) [(0, .ref a_t), (1, .ref a_q1), (2, .int v2), (3, .int v3), (4, .int v4)] rfl ?_
  intro p e s m args below meth c ls Q hx hb hml hown hU hE hP rt hl
  have hown : s.vm.findClass RX4 = some m.cls := hown
  unfold mX4_stateOf at hM
  refine lv_aload_n hx hb dX4_stateOf_0 rfl (lv_at hl 0 rfl) ?_
  refine lv_aload_n hx hb dX4_stateOf_1 rfl (lv_at hl 1 rfl) ?_
  refine lv_iload_n hx hb dX4_stateOf_2 rfl (lv_at hl 2 rfl) ?_
  refine lv_iload_n hx hb dX4_stateOf_3 rfl (lv_at hl 3 rfl) ?_
  refine lv_iload hx hb dX4_stateOf_4 (lv_at hl 4 rfl) ?_
  refine lv_sipush (v := (255 : Int32)) hx hb dX4_stateOf_6 (by decide) ?_
  obtain ⟨x9, h9, hM⟩ := bind_e hM
  refine rdV (As := [.ref a_q1, .int v2, .int v3, .int v4, .int (255 : Int32)]) (rest := []) (st2 := [.int x9]) ⟨hx, hb, hml, hown, hU⟩ hE (okX4_stateBy a_t a_t_text a_t_paper a_t_now a_t_trial a_t_diary a_t_kept a_t_isKept a_t_seenAt a_t_worth a_t_readPaper a_t_read a_q1 s_t s_q1 s_t_paper v2 v3 v4 (255 : Int32) x9 h9) lk_X4_134 (hP.sub [0, 1, 2] rfl) rfl rfl rfl hl.1 rfl (Nat.le_of_ble_eq_true rfl) ⟨Nat.le_of_ble_eq_true rfl, Nat.le_of_ble_eq_true rfl⟩ dX4_stateOf_9 ⟨Nat.le_refl _, Nat.le_refl _⟩ rfl ?_
  cases hM
  exact rt _ _ _ dX4_stateOf_12 rfl
noncomputable def mX4_routeState (s_q1 : Nat → Int32) (s_t_paper : Nat → Int32) (v2 : Int32) : Option (Int32) := rd s_q1 66 ((42 : Int32) + ((3 : Int32) * v2)) (fun x11 => rd s_q1 66 (((42 : Int32) + ((3 : Int32) * v2)) + (1 : Int32)) (fun x16 => rd s_q1 66 (((42 : Int32) + ((3 : Int32) * v2)) + (2 : Int32)) (fun x21 => (mX4_stateOf s_q1 s_t_paper x11 x16 x21).bind (fun x22 => some (x22)))))
set_option maxHeartbeats 4000000 in
set_option maxRecDepth 100000 in
theorem okX4_routeState {l : Launch} {dC : Nat → ClassId} {dI : Nat → Nat → Nat} {cI cC cZ : ClassId} (a_t a_t_text a_t_paper a_t_now a_t_trial a_t_diary a_t_kept a_t_isKept a_t_seenAt a_t_worth a_t_readPaper a_t_read a_q1 : Nat) (s_t : Int32 × Int32 × Int32 × Int32 × Int32 × Int32 × Int32 × Int32 × Int32 × Int64) (s_q1 : Nat → Int32) (s_t_paper : Nat → Int32) (v2 : Int32) (res : Int32) (hM : mX4_routeState s_q1 s_t_paper v2 = some res) : Rd l yX4_routeState cX4_routeState 4 (some .int) 6 145 (dC, dI) cI cC cZ [(a_t, .inr (4, [.ref a_t_text, .int s_t.1, .int s_t.2.1, .ref a_t_paper, .ref a_t_now, .ref a_t_trial, .ref a_t_diary, .int s_t.2.2.1, .int s_t.2.2.2.1, .ref a_t_kept, .ref a_t_isKept, .ref a_t_seenAt, .int s_t.2.2.2.2.1, .long s_t.2.2.2.2.2.2.2.2.2, .ref a_t_worth, .int s_t.2.2.2.2.2.1, .int s_t.2.2.2.2.2.2.1, .ref a_t_readPaper, .ref a_t_read, .int s_t.2.2.2.2.2.2.2.1, .int s_t.2.2.2.2.2.2.2.2.1])), (a_q1, .inl (cI, 66, .inl s_q1)), (a_t_paper, .inl (cI, 24, .inl s_t_paper))] [.ref a_t, .ref a_q1, .int v2] (some (.int res)) := by
  refine Rd.ofI (by decide) (Nat.le_of_ble_eq_true rfl) [(0, .ref a_t), (1, .ref a_q1), (2, .int v2)] rfl ?_
  intro p e s m args below meth c ls Q hx hb hml hown hU hE hP rt hl
  have hown : s.vm.findClass RX4 = some m.cls := hown
  unfold mX4_routeState at hM
  refine lv_bipush (v := (42 : Int32)) hx hb dX4_routeState_0 (by decide) ?_
  refine lv_iconst (v := (3 : Int32)) hx hb dX4_routeState_2 (by decide) ?_
  refine lv_iload_n hx hb dX4_routeState_3 rfl (lv_at hl 2 rfl) ?_
  refine lv_imul hx hb dX4_routeState_4 ?_
  refine lv_iadd hx hb dX4_routeState_5 ?_
  refine lv_istore_n (lv' := [(3, .int ((42 : Int32) + ((3 : Int32) * v2))), (0, .ref a_t), (1, .ref a_q1), (2, .int v2)]) hx hb dX4_routeState_6 rfl hl (by decide) rfl (fun ls hl => ?_)
  refine lv_aload_n hx hb dX4_routeState_7 rfl (lv_at hl 1 rfl) ?_
  refine lv_aload_n hx hb dX4_routeState_8 rfl (lv_at hl 2 rfl) ?_
  refine lv_aload_n hx hb dX4_routeState_9 rfl (lv_at hl 2 rfl) ?_
  refine lv_iload_n hx hb dX4_routeState_10 rfl (lv_at hl 0 rfl) ?_
  obtain ⟨g11, hM⟩ := rd_e hM
  refine va_iald hx hb hE.1 hP 1 0 rfl rfl g11 dX4_routeState_11 ?_
  refine lv_aload_n hx hb dX4_routeState_12 rfl (lv_at hl 2 rfl) ?_
  refine lv_iload_n hx hb dX4_routeState_13 rfl (lv_at hl 0 rfl) ?_
  refine lv_iconst (v := (1 : Int32)) hx hb dX4_routeState_14 (by decide) ?_
  refine lv_iadd hx hb dX4_routeState_15 ?_
  obtain ⟨g16, hM⟩ := rd_e hM
  refine va_iald hx hb hE.1 hP 1 0 rfl rfl g16 dX4_routeState_16 ?_
  refine lv_aload_n hx hb dX4_routeState_17 rfl (lv_at hl 2 rfl) ?_
  refine lv_iload_n hx hb dX4_routeState_18 rfl (lv_at hl 0 rfl) ?_
  refine lv_iconst (v := (2 : Int32)) hx hb dX4_routeState_19 (by decide) ?_
  refine lv_iadd hx hb dX4_routeState_20 ?_
  obtain ⟨g21, hM⟩ := rd_e hM
  refine va_iald hx hb hE.1 hP 1 0 rfl rfl g21 dX4_routeState_21 ?_
  obtain ⟨x22, h22, hM⟩ := bind_e hM
  refine rdV (As := [.ref a_q1, .int (s_q1 ((42 : Int32) + ((3 : Int32) * v2)).toNatClampNeg), .int (s_q1 (((42 : Int32) + ((3 : Int32) * v2)) + (1 : Int32)).toNatClampNeg), .int (s_q1 (((42 : Int32) + ((3 : Int32) * v2)) + (2 : Int32)).toNatClampNeg)]) (rest := []) (st2 := [.int x22]) ⟨hx, hb, hml, hown, hU⟩ hE (okX4_stateOf a_t a_t_text a_t_paper a_t_now a_t_trial a_t_diary a_t_kept a_t_isKept a_t_seenAt a_t_worth a_t_readPaper a_t_read a_q1 s_t s_q1 s_t_paper (s_q1 ((42 : Int32) + ((3 : Int32) * v2)).toNatClampNeg) (s_q1 (((42 : Int32) + ((3 : Int32) * v2)) + (1 : Int32)).toNatClampNeg) (s_q1 (((42 : Int32) + ((3 : Int32) * v2)) + (2 : Int32)).toNatClampNeg) x22 h22) lk_X4_138 (hP.sub [0, 1, 2] rfl) rfl rfl rfl hl.1 rfl (Nat.le_of_ble_eq_true rfl) ⟨Nat.le_of_ble_eq_true rfl, Nat.le_of_ble_eq_true rfl⟩ dX4_routeState_22 ⟨Nat.le_refl _, Nat.le_refl _⟩ rfl ?_
  cases hM
  exact rt _ _ _ dX4_routeState_25 rfl
noncomputable def mX4_those_b5 (s_q1 : Nat → Int32) (s_t_paper : Nat → Int32) (v2 : Int32) : Nat → Int32 → Int32 → Option (Int32)
  | 0, _, _ => none
  | n + 1, v3, v4 => rd s_q1 66 (41 : Int32) (fun x10 => (if x10 ≤ v4 then some (v3) else (mX4_routeState s_q1 s_t_paper v4).bind (fun x19 => (if x19 = v2 then mX4_those_b5 s_q1 s_t_paper v2 n (v3 ||| ((1 : Int32) <<< (v4 &&& 31))) (v4 + (1 : Int32)) else mX4_those_b5 s_q1 s_t_paper v2 n (v3 ||| (0 : Int32)) (v4 + (1 : Int32))))))
noncomputable def mX4_those (s_q1 : Nat → Int32) (s_t_paper : Nat → Int32) (v2 : Int32) : Option (Int32) := mX4_those_b5 s_q1 s_t_paper v2 FU (0 : Int32) (0 : Int32)
set_option maxHeartbeats 4000000 in
set_option maxRecDepth 100000 in
theorem okX4_those {l : Launch} {dC : Nat → ClassId} {dI : Nat → Nat → Nat} {cI cC cZ : ClassId} (a_t a_t_text a_t_paper a_t_now a_t_trial a_t_diary a_t_kept a_t_isKept a_t_seenAt a_t_worth a_t_readPaper a_t_read a_q1 : Nat) (s_t : Int32 × Int32 × Int32 × Int32 × Int32 × Int32 × Int32 × Int32 × Int32 × Int64) (s_q1 : Nat → Int32) (s_t_paper : Nat → Int32) (v2 : Int32) (res : Int32) (hM : mX4_those s_q1 s_t_paper v2 = some res) : Rd l yX4_those cX4_those 5 (some .int) 7 168 (dC, dI) cI cC cZ [(a_t, .inr (4, [.ref a_t_text, .int s_t.1, .int s_t.2.1, .ref a_t_paper, .ref a_t_now, .ref a_t_trial, .ref a_t_diary, .int s_t.2.2.1, .int s_t.2.2.2.1, .ref a_t_kept, .ref a_t_isKept, .ref a_t_seenAt, .int s_t.2.2.2.2.1, .long s_t.2.2.2.2.2.2.2.2.2, .ref a_t_worth, .int s_t.2.2.2.2.2.1, .int s_t.2.2.2.2.2.2.1, .ref a_t_readPaper, .ref a_t_read, .int s_t.2.2.2.2.2.2.2.1, .int s_t.2.2.2.2.2.2.2.2.1])), (a_q1, .inl (cI, 66, .inl s_q1)), (a_t_paper, .inl (cI, 24, .inl s_t_paper))] [.ref a_t, .ref a_q1, .int v2] (some (.int res)) := by
  refine Rd.ofI (by decide) (Nat.le_of_ble_eq_true rfl) [(0, .ref a_t), (1, .ref a_q1), (2, .int v2)] rfl ?_
  intro p e s m args below meth c ls Q hx hb hml hown hU hE hP rt hl
  have hown : s.vm.findClass RX4 = some m.cls := hown
  unfold mX4_those at hM
  refine lv_iconst (v := (0 : Int32)) hx hb dX4_those_0 (by decide) ?_
  refine lv_istore_n (lv' := [(3, .int (0 : Int32)), (0, .ref a_t), (1, .ref a_q1), (2, .int v2)]) hx hb dX4_those_1 rfl hl (by decide) rfl (fun ls hl => ?_)
  refine lv_iconst (v := (0 : Int32)) hx hb dX4_those_2 (by decide) ?_
  refine lv_istore (lv' := [(4, .int (0 : Int32)), (3, .int (0 : Int32)), (0, .ref a_t), (1, .ref a_q1), (2, .int v2)]) hx hb dX4_those_3 hl (by decide) rfl (fun ls hl => ?_)
  have w_5 : ∀ (n : Nat) (v3_5 : Int32) (v4_5 : Int32), mX4_those_b5 s_q1 s_t_paper v2 n v3_5 v4_5 = some res → ∀ (ls : Array Slot), lv_has ls 5 [(0, .ref a_t), (1, .ref a_q1), (2, .int v2), (3, .int v3_5), (4, .int v4_5)] → W p l e (RM 7 168) s m args below meth c s.heap [] 0 0 Q (F0 m 5 ls []) := by
    intro n
    induction n with
    | zero =>
      intro v3_5 v4_5 hM
      rw [mX4_those_b5] at hM
      cases hM
    | succ n_5 ih_5 =>
      intro v3_5 v4_5 hM ls hl
      rw [mX4_those_b5] at hM
      refine lv_iload hx hb dX4_those_5 (lv_at hl 4 rfl) ?_
      refine lv_aload_n hx hb dX4_those_7 rfl (lv_at hl 1 rfl) ?_
      refine lv_bipush (v := (41 : Int32)) hx hb dX4_those_8 (by decide) ?_
      obtain ⟨g10, hM⟩ := rd_e hM
      refine va_iald hx hb hE.1 hP 1 0 rfl rfl g10 dX4_those_10 ?_
      refine lv_icmp_ge (tgt := 42) hx hb dX4_those_11 (by decide) (fun c11 => ?_) (fun c11 => ?_)
      · have hM := ite_t c11 hM
        refine lv_iload_n hx hb dX4_those_42 rfl (lv_at hl 3 rfl) ?_
        cases hM
        exact rt _ _ _ dX4_those_43 rfl
      · have hM := ite_f c11 hM
        refine lv_iload_n hx hb dX4_those_14 rfl (lv_at hl 3 rfl) ?_
        refine lv_aload_n hx hb dX4_those_15 rfl (lv_at hl 0 rfl) ?_
        refine lv_aload_n hx hb dX4_those_16 rfl (lv_at hl 1 rfl) ?_
        refine lv_iload hx hb dX4_those_17 (lv_at hl 4 rfl) ?_
        obtain ⟨x19, h19, hM⟩ := bind_e hM
        refine rdV (As := [.ref a_q1, .int v4_5]) (rest := [.int v3_5]) (st2 := [.int x19, .int v3_5]) ⟨hx, hb, hml, hown, hU⟩ hE (okX4_routeState a_t a_t_text a_t_paper a_t_now a_t_trial a_t_diary a_t_kept a_t_isKept a_t_seenAt a_t_worth a_t_readPaper a_t_read a_q1 s_t s_q1 s_t_paper v4_5 x19 h19) lk_X4_142 (hP.sub [0, 1, 2] rfl) rfl rfl rfl hl.1 rfl (Nat.le_of_ble_eq_true rfl) ⟨Nat.le_of_ble_eq_true rfl, Nat.le_of_ble_eq_true rfl⟩ dX4_those_19 ⟨Nat.le_refl _, Nat.le_refl _⟩ rfl ?_
        refine lv_iload_n hx hb dX4_those_22 rfl (lv_at hl 2 rfl) ?_
        refine lv_icmp_ne (tgt := 33) hx hb dX4_those_23 (by decide) (fun c23 => ?_) (fun c23 => ?_)
        · have hM := ite_f c23 hM
          refine lv_iconst (v := (0 : Int32)) hx hb dX4_those_33 (by decide) ?_
          refine lv_ior hx hb dX4_those_34 ?_
          refine lv_istore_n (lv' := [(3, .int (v3_5 ||| (0 : Int32))), (0, .ref a_t), (1, .ref a_q1), (2, .int v2), (4, .int v4_5)]) hx hb dX4_those_35 rfl hl (by decide) rfl (fun ls hl => ?_)
          refine lv_iinc (v := (v4_5 + (1 : Int32))) (lv' := [(4, .int (v4_5 + (1 : Int32))), (3, .int (v3_5 ||| (0 : Int32))), (0, .ref a_t), (1, .ref a_q1), (2, .int v2)]) hx hb dX4_those_36 hl (k := 4) rfl rfl (by decide) rfl (fun ls hl => ?_)
          refine lv_goto (tgt := 5) hx hb dX4_those_39 (by decide) ?_
          exact ih_5 (v3_5 ||| (0 : Int32)) (v4_5 + (1 : Int32)) hM ls (lv_sub hl [2, 3, 4, 1, 0] rfl)
        · have hM := ite_t c23 hM
          refine lv_iconst (v := (1 : Int32)) hx hb dX4_those_26 (by decide) ?_
          refine lv_iload hx hb dX4_those_27 (lv_at hl 4 rfl) ?_
          refine lv_ishl hx hb dX4_those_29 ?_
          refine lv_goto (tgt := 34) hx hb dX4_those_30 (by decide) ?_
          refine lv_ior hx hb dX4_those_34 ?_
          refine lv_istore_n (lv' := [(3, .int (v3_5 ||| ((1 : Int32) <<< (v4_5 &&& 31)))), (0, .ref a_t), (1, .ref a_q1), (2, .int v2), (4, .int v4_5)]) hx hb dX4_those_35 rfl hl (by decide) rfl (fun ls hl => ?_)
          refine lv_iinc (v := (v4_5 + (1 : Int32))) (lv' := [(4, .int (v4_5 + (1 : Int32))), (3, .int (v3_5 ||| ((1 : Int32) <<< (v4_5 &&& 31)))), (0, .ref a_t), (1, .ref a_q1), (2, .int v2)]) hx hb dX4_those_36 hl (k := 4) rfl rfl (by decide) rfl (fun ls hl => ?_)
          refine lv_goto (tgt := 5) hx hb dX4_those_39 (by decide) ?_
          exact ih_5 (v3_5 ||| ((1 : Int32) <<< (v4_5 &&& 31))) (v4_5 + (1 : Int32)) hM ls (lv_sub hl [2, 3, 4, 1, 0] rfl)
  exact w_5 FU (0 : Int32) (0 : Int32) hM ls (lv_sub hl [2, 3, 4, 1, 0] rfl)
noncomputable def mX4_about (s_t : Int32 × Int32 × Int32 × Int32 × Int32 × Int32 × Int32 × Int32 × Int32 × Int64) (s_t_now : Nat → Int32) (s_t_paper : Nat → Int32) (v1 : Int32) : Option (Int32) := (if v1 = (0 : Int32) then some (s_t.2.1) else (if v1 = (1 : Int32) then rd s_t_now 66 (0 : Int32) (fun x78 => some (x78)) else (if v1 = (2 : Int32) then rd s_t_now 66 (41 : Int32) (fun x86 => some (x86)) else (if v1 = (3 : Int32) then rd s_t_now 66 (65 : Int32) (fun x94 => some (x94)) else (if v1 = (4 : Int32) then rd s_t_now 66 (63 : Int32) (fun x102 => some (x102)) else (if v1 = (5 : Int32) then (mX4_standing s_t s_t_paper s_t_now).bind (fun x105 => some (x105)) else (if v1 = (6 : Int32) then rd s_t_now 66 (64 : Int32) (fun x115 => some (x115)) else (if v1 = (7 : Int32) then (mX4_those s_t_now s_t_paper (2 : Int32)).bind (fun x123 => some (x123)) else (if v1 = (8 : Int32) then (mX4_those s_t_now s_t_paper (0 : Int32)).bind (fun x133 => some (x133)) else (if v1 = (9 : Int32) then (mX4_bare s_t_now s_t_paper).bind (fun x138 => some (x138)) else (if v1 = (10 : Int32) then some (s_t.2.2.1) else (if v1 = (11 : Int32) then some (s_t.2.2.2.2.1) else (if v1 = (12 : Int32) then some (s_t.1) else some ((-2 : Int32)))))))))))))))
set_option maxHeartbeats 4000000 in
set_option maxRecDepth 100000 in
theorem okX4_about {l : Launch} {dC : Nat → ClassId} {dI : Nat → Nat → Nat} {cI cC cZ : ClassId} (a_t a_t_text a_t_paper a_t_now a_t_trial a_t_diary a_t_kept a_t_isKept a_t_seenAt a_t_worth a_t_readPaper a_t_read : Nat) (s_t : Int32 × Int32 × Int32 × Int32 × Int32 × Int32 × Int32 × Int32 × Int32 × Int64) (s_t_now : Nat → Int32) (s_t_paper : Nat → Int32) (v1 : Int32) (res : Int32) (hM : mX4_about s_t s_t_now s_t_paper v1 = some res) : Rd l yX4_about cX4_about 2 (some .int) 8 192 (dC, dI) cI cC cZ [(a_t, .inr (4, [.ref a_t_text, .int s_t.1, .int s_t.2.1, .ref a_t_paper, .ref a_t_now, .ref a_t_trial, .ref a_t_diary, .int s_t.2.2.1, .int s_t.2.2.2.1, .ref a_t_kept, .ref a_t_isKept, .ref a_t_seenAt, .int s_t.2.2.2.2.1, .long s_t.2.2.2.2.2.2.2.2.2, .ref a_t_worth, .int s_t.2.2.2.2.2.1, .int s_t.2.2.2.2.2.2.1, .ref a_t_readPaper, .ref a_t_read, .int s_t.2.2.2.2.2.2.2.1, .int s_t.2.2.2.2.2.2.2.2.1])), (a_t_now, .inl (cI, 66, .inl s_t_now)), (a_t_paper, .inl (cI, 24, .inl s_t_paper))] [.ref a_t, .int v1] (some (.int res)) := by
  refine Rd.ofI (by decide) (Nat.le_of_ble_eq_true rfl) [(0, .ref a_t), (1, .int v1)] rfl ?_
  intro p e s m args below meth c ls Q hx hb hml hown hU hE hP rt hl
  have hown : s.vm.findClass RX4 = some m.cls := hown
  unfold mX4_about at hM
  refine lv_iload_n hx hb dX4_about_0 rfl (lv_at hl 1 rfl) ?_
  by_cases c1_0 : v1 = (0 : Int32)
  · have hM := ite_t c1_0 hM
    refine lv_tableIn (off := 67) (tgt := 68) hx hb dX4_about_1 (by rw [c1_0]; decide) (by rw [c1_0]; decide) (by rw [c1_0]; rfl) (by decide) ?_
    refine lv_aload_n hx hb dX4_about_68 rfl (lv_at hl 0 rfl) ?_
    refine va_get (D := (dC, dI)) (ci := 4) (v := .int s_t.2.1) (C := RX4) (T := TX4) (N := 21) hx hb hU inlX4 hown hE.1 hP 0 rfl rfl 2 (by decide) (hU _ u_5_1) (fun _ h9 => h9) rfl dX4_about_69 ?_
    cases hM
    exact rt _ _ _ dX4_about_72 rfl
  have hM := ite_f c1_0 hM
  by_cases c1_1 : v1 = (1 : Int32)
  · have hM := ite_t c1_1 hM
    refine lv_tableIn (off := 72) (tgt := 73) hx hb dX4_about_1 (by rw [c1_1]; decide) (by rw [c1_1]; decide) (by rw [c1_1]; rfl) (by decide) ?_
    refine lv_aload_n hx hb dX4_about_73 rfl (lv_at hl 0 rfl) ?_
    refine va_get (D := (dC, dI)) (ci := 4) (v := .ref a_t_now) (C := RX4) (T := TX4) (N := 21) hx hb hU inlX4 hown hE.1 hP 0 rfl rfl 4 (by decide) (hU _ u_4_15) (fun _ h9 => h9) rfl dX4_about_74 ?_
    refine lv_iconst (v := (0 : Int32)) hx hb dX4_about_77 (by decide) ?_
    obtain ⟨g78, hM⟩ := rd_e hM
    refine va_iald hx hb hE.1 hP 1 0 rfl rfl g78 dX4_about_78 ?_
    cases hM
    exact rt _ _ _ dX4_about_79 rfl
  have hM := ite_f c1_1 hM
  by_cases c1_2 : v1 = (2 : Int32)
  · have hM := ite_t c1_2 hM
    refine lv_tableIn (off := 79) (tgt := 80) hx hb dX4_about_1 (by rw [c1_2]; decide) (by rw [c1_2]; decide) (by rw [c1_2]; rfl) (by decide) ?_
    refine lv_aload_n hx hb dX4_about_80 rfl (lv_at hl 0 rfl) ?_
    refine va_get (D := (dC, dI)) (ci := 4) (v := .ref a_t_now) (C := RX4) (T := TX4) (N := 21) hx hb hU inlX4 hown hE.1 hP 0 rfl rfl 4 (by decide) (hU _ u_4_15) (fun _ h9 => h9) rfl dX4_about_81 ?_
    refine lv_bipush (v := (41 : Int32)) hx hb dX4_about_84 (by decide) ?_
    obtain ⟨g86, hM⟩ := rd_e hM
    refine va_iald hx hb hE.1 hP 1 0 rfl rfl g86 dX4_about_86 ?_
    cases hM
    exact rt _ _ _ dX4_about_87 rfl
  have hM := ite_f c1_2 hM
  by_cases c1_3 : v1 = (3 : Int32)
  · have hM := ite_t c1_3 hM
    refine lv_tableIn (off := 87) (tgt := 88) hx hb dX4_about_1 (by rw [c1_3]; decide) (by rw [c1_3]; decide) (by rw [c1_3]; rfl) (by decide) ?_
    refine lv_aload_n hx hb dX4_about_88 rfl (lv_at hl 0 rfl) ?_
    refine va_get (D := (dC, dI)) (ci := 4) (v := .ref a_t_now) (C := RX4) (T := TX4) (N := 21) hx hb hU inlX4 hown hE.1 hP 0 rfl rfl 4 (by decide) (hU _ u_4_15) (fun _ h9 => h9) rfl dX4_about_89 ?_
    refine lv_bipush (v := (65 : Int32)) hx hb dX4_about_92 (by decide) ?_
    obtain ⟨g94, hM⟩ := rd_e hM
    refine va_iald hx hb hE.1 hP 1 0 rfl rfl g94 dX4_about_94 ?_
    cases hM
    exact rt _ _ _ dX4_about_95 rfl
  have hM := ite_f c1_3 hM
  by_cases c1_4 : v1 = (4 : Int32)
  · have hM := ite_t c1_4 hM
    refine lv_tableIn (off := 95) (tgt := 96) hx hb dX4_about_1 (by rw [c1_4]; decide) (by rw [c1_4]; decide) (by rw [c1_4]; rfl) (by decide) ?_
    refine lv_aload_n hx hb dX4_about_96 rfl (lv_at hl 0 rfl) ?_
    refine va_get (D := (dC, dI)) (ci := 4) (v := .ref a_t_now) (C := RX4) (T := TX4) (N := 21) hx hb hU inlX4 hown hE.1 hP 0 rfl rfl 4 (by decide) (hU _ u_4_15) (fun _ h9 => h9) rfl dX4_about_97 ?_
    refine lv_bipush (v := (63 : Int32)) hx hb dX4_about_100 (by decide) ?_
    obtain ⟨g102, hM⟩ := rd_e hM
    refine va_iald hx hb hE.1 hP 1 0 rfl rfl g102 dX4_about_102 ?_
    cases hM
    exact rt _ _ _ dX4_about_103 rfl
  have hM := ite_f c1_4 hM
  by_cases c1_5 : v1 = (5 : Int32)
  · have hM := ite_t c1_5 hM
    refine lv_tableIn (off := 103) (tgt := 104) hx hb dX4_about_1 (by rw [c1_5]; decide) (by rw [c1_5]; decide) (by rw [c1_5]; rfl) (by decide) ?_
    refine lv_aload_n hx hb dX4_about_104 rfl (lv_at hl 0 rfl) ?_
    obtain ⟨x105, h105, hM⟩ := bind_e hM
    refine rdV (As := []) (rest := []) (st2 := [.int x105]) ⟨hx, hb, hml, hown, hU⟩ hE (okX4_standing a_t a_t_text a_t_paper a_t_now a_t_trial a_t_diary a_t_kept a_t_isKept a_t_seenAt a_t_worth a_t_readPaper a_t_read s_t s_t_paper s_t_now x105 h105) lk_X4_153 (hP.sub [0, 2, 1] rfl) rfl rfl rfl hl.1 rfl (Nat.le_of_ble_eq_true rfl) ⟨Nat.le_of_ble_eq_true rfl, Nat.le_of_ble_eq_true rfl⟩ dX4_about_105 ⟨Nat.le_refl _, Nat.le_refl _⟩ rfl ?_
    cases hM
    exact rt _ _ _ dX4_about_108 rfl
  have hM := ite_f c1_5 hM
  by_cases c1_6 : v1 = (6 : Int32)
  · have hM := ite_t c1_6 hM
    refine lv_tableIn (off := 108) (tgt := 109) hx hb dX4_about_1 (by rw [c1_6]; decide) (by rw [c1_6]; decide) (by rw [c1_6]; rfl) (by decide) ?_
    refine lv_aload_n hx hb dX4_about_109 rfl (lv_at hl 0 rfl) ?_
    refine va_get (D := (dC, dI)) (ci := 4) (v := .ref a_t_now) (C := RX4) (T := TX4) (N := 21) hx hb hU inlX4 hown hE.1 hP 0 rfl rfl 4 (by decide) (hU _ u_4_15) (fun _ h9 => h9) rfl dX4_about_110 ?_
    refine lv_bipush (v := (64 : Int32)) hx hb dX4_about_113 (by decide) ?_
    obtain ⟨g115, hM⟩ := rd_e hM
    refine va_iald hx hb hE.1 hP 1 0 rfl rfl g115 dX4_about_115 ?_
    cases hM
    exact rt _ _ _ dX4_about_116 rfl
  have hM := ite_f c1_6 hM
  by_cases c1_7 : v1 = (7 : Int32)
  · have hM := ite_t c1_7 hM
    refine lv_tableIn (off := 116) (tgt := 117) hx hb dX4_about_1 (by rw [c1_7]; decide) (by rw [c1_7]; decide) (by rw [c1_7]; rfl) (by decide) ?_
    refine lv_aload_n hx hb dX4_about_117 rfl (lv_at hl 0 rfl) ?_
    refine lv_aload_n hx hb dX4_about_118 rfl (lv_at hl 0 rfl) ?_
    refine va_get (D := (dC, dI)) (ci := 4) (v := .ref a_t_now) (C := RX4) (T := TX4) (N := 21) hx hb hU inlX4 hown hE.1 hP 0 rfl rfl 4 (by decide) (hU _ u_4_15) (fun _ h9 => h9) rfl dX4_about_119 ?_
    refine lv_iconst (v := (2 : Int32)) hx hb dX4_about_122 (by decide) ?_
    obtain ⟨x123, h123, hM⟩ := bind_e hM
    refine rdV (As := [.ref a_t_now, .int (2 : Int32)]) (rest := []) (st2 := [.int x123]) ⟨hx, hb, hml, hown, hU⟩ hE (okX4_those a_t a_t_text a_t_paper a_t_now a_t_trial a_t_diary a_t_kept a_t_isKept a_t_seenAt a_t_worth a_t_readPaper a_t_read a_t_now s_t s_t_now s_t_paper (2 : Int32) x123 h123) lk_X4_156 (hP.sub [0, 1, 2] rfl) rfl rfl rfl hl.1 rfl (Nat.le_of_ble_eq_true rfl) ⟨Nat.le_of_ble_eq_true rfl, Nat.le_of_ble_eq_true rfl⟩ dX4_about_123 ⟨Nat.le_refl _, Nat.le_refl _⟩ rfl ?_
    cases hM
    exact rt _ _ _ dX4_about_126 rfl
  have hM := ite_f c1_7 hM
  by_cases c1_8 : v1 = (8 : Int32)
  · have hM := ite_t c1_8 hM
    refine lv_tableIn (off := 126) (tgt := 127) hx hb dX4_about_1 (by rw [c1_8]; decide) (by rw [c1_8]; decide) (by rw [c1_8]; rfl) (by decide) ?_
    refine lv_aload_n hx hb dX4_about_127 rfl (lv_at hl 0 rfl) ?_
    refine lv_aload_n hx hb dX4_about_128 rfl (lv_at hl 0 rfl) ?_
    refine va_get (D := (dC, dI)) (ci := 4) (v := .ref a_t_now) (C := RX4) (T := TX4) (N := 21) hx hb hU inlX4 hown hE.1 hP 0 rfl rfl 4 (by decide) (hU _ u_4_15) (fun _ h9 => h9) rfl dX4_about_129 ?_
    refine lv_iconst (v := (0 : Int32)) hx hb dX4_about_132 (by decide) ?_
    obtain ⟨x133, h133, hM⟩ := bind_e hM
    refine rdV (As := [.ref a_t_now, .int (0 : Int32)]) (rest := []) (st2 := [.int x133]) ⟨hx, hb, hml, hown, hU⟩ hE (okX4_those a_t a_t_text a_t_paper a_t_now a_t_trial a_t_diary a_t_kept a_t_isKept a_t_seenAt a_t_worth a_t_readPaper a_t_read a_t_now s_t s_t_now s_t_paper (0 : Int32) x133 h133) lk_X4_156 (hP.sub [0, 1, 2] rfl) rfl rfl rfl hl.1 rfl (Nat.le_of_ble_eq_true rfl) ⟨Nat.le_of_ble_eq_true rfl, Nat.le_of_ble_eq_true rfl⟩ dX4_about_133 ⟨Nat.le_refl _, Nat.le_refl _⟩ rfl ?_
    cases hM
    exact rt _ _ _ dX4_about_136 rfl
  have hM := ite_f c1_8 hM
  by_cases c1_9 : v1 = (9 : Int32)
  · have hM := ite_t c1_9 hM
    refine lv_tableIn (off := 136) (tgt := 137) hx hb dX4_about_1 (by rw [c1_9]; decide) (by rw [c1_9]; decide) (by rw [c1_9]; rfl) (by decide) ?_
    refine lv_aload_n hx hb dX4_about_137 rfl (lv_at hl 0 rfl) ?_
    obtain ⟨x138, h138, hM⟩ := bind_e hM
    refine rdV (As := []) (rest := []) (st2 := [.int x138]) ⟨hx, hb, hml, hown, hU⟩ hE (okX4_bare a_t a_t_text a_t_paper a_t_now a_t_trial a_t_diary a_t_kept a_t_isKept a_t_seenAt a_t_worth a_t_readPaper a_t_read s_t s_t_now s_t_paper x138 h138) lk_X4_159 (hP.sub [0, 1, 2] rfl) rfl rfl rfl hl.1 rfl (Nat.le_of_ble_eq_true rfl) ⟨Nat.le_of_ble_eq_true rfl, Nat.le_of_ble_eq_true rfl⟩ dX4_about_138 ⟨Nat.le_refl _, Nat.le_refl _⟩ rfl ?_
    cases hM
    exact rt _ _ _ dX4_about_141 rfl
  have hM := ite_f c1_9 hM
  by_cases c1_10 : v1 = (10 : Int32)
  · have hM := ite_t c1_10 hM
    refine lv_tableIn (off := 141) (tgt := 142) hx hb dX4_about_1 (by rw [c1_10]; decide) (by rw [c1_10]; decide) (by rw [c1_10]; rfl) (by decide) ?_
    refine lv_aload_n hx hb dX4_about_142 rfl (lv_at hl 0 rfl) ?_
    refine va_get (D := (dC, dI)) (ci := 4) (v := .int s_t.2.2.1) (C := RX4) (T := TX4) (N := 21) hx hb hU inlX4 hown hE.1 hP 0 rfl rfl 7 (by decide) (hU _ u_11_10) (fun _ h9 => h9) rfl dX4_about_143 ?_
    cases hM
    exact rt _ _ _ dX4_about_146 rfl
  have hM := ite_f c1_10 hM
  by_cases c1_11 : v1 = (11 : Int32)
  · have hM := ite_t c1_11 hM
    refine lv_tableIn (off := 146) (tgt := 147) hx hb dX4_about_1 (by rw [c1_11]; decide) (by rw [c1_11]; decide) (by rw [c1_11]; rfl) (by decide) ?_
    refine lv_aload_n hx hb dX4_about_147 rfl (lv_at hl 0 rfl) ?_
    refine va_get (D := (dC, dI)) (ci := 4) (v := .int s_t.2.2.2.2.1) (C := RX4) (T := TX4) (N := 21) hx hb hU inlX4 hown hE.1 hP 0 rfl rfl 12 (by decide) (hU _ u_13_21) (fun _ h9 => h9) rfl dX4_about_148 ?_
    cases hM
    exact rt _ _ _ dX4_about_151 rfl
  have hM := ite_f c1_11 hM
  by_cases c1_12 : v1 = (12 : Int32)
  · have hM := ite_t c1_12 hM
    refine lv_tableIn (off := 151) (tgt := 152) hx hb dX4_about_1 (by rw [c1_12]; decide) (by rw [c1_12]; decide) (by rw [c1_12]; rfl) (by decide) ?_
    refine lv_aload_n hx hb dX4_about_152 rfl (lv_at hl 0 rfl) ?_
    refine va_get (D := (dC, dI)) (ci := 4) (v := .int s_t.1) (C := RX4) (T := TX4) (N := 21) hx hb hU inlX4 hown hE.1 hP 0 rfl rfl 1 (by decide) (hU _ u_5_17) (fun _ h9 => h9) rfl dX4_about_153 ?_
    cases hM
    exact rt _ _ _ dX4_about_156 rfl
  have hM := ite_f c1_12 hM
  refine lv_tableOut (tgt := 157) hx hb dX4_about_1 (sw_out (fun v h1 h2 h3 => by rcases (show v = 0 ∨ v = 1 ∨ v = 2 ∨ v = 3 ∨ v = 4 ∨ v = 5 ∨ v = 6 ∨ v = 7 ∨ v = 8 ∨ v = 9 ∨ v = 10 ∨ v = 11 ∨ v = 12 by omega) with rfl | rfl | rfl | rfl | rfl | rfl | rfl | rfl | rfl | rfl | rfl | rfl | rfl <;> first | exact c1_0 (Int32.toInt_inj.mp (h3.trans (by decide))) | exact c1_1 (Int32.toInt_inj.mp (h3.trans (by decide))) | exact c1_2 (Int32.toInt_inj.mp (h3.trans (by decide))) | exact c1_3 (Int32.toInt_inj.mp (h3.trans (by decide))) | exact c1_4 (Int32.toInt_inj.mp (h3.trans (by decide))) | exact c1_5 (Int32.toInt_inj.mp (h3.trans (by decide))) | exact c1_6 (Int32.toInt_inj.mp (h3.trans (by decide))) | exact c1_7 (Int32.toInt_inj.mp (h3.trans (by decide))) | exact c1_8 (Int32.toInt_inj.mp (h3.trans (by decide))) | exact c1_9 (Int32.toInt_inj.mp (h3.trans (by decide))) | exact c1_10 (Int32.toInt_inj.mp (h3.trans (by decide))) | exact c1_11 (Int32.toInt_inj.mp (h3.trans (by decide))) | exact c1_12 (Int32.toInt_inj.mp (h3.trans (by decide))))) (by decide) ?_
  refine lv_bipush (v := (-2 : Int32)) hx hb dX4_about_157 (by decide) ?_
  cases hM
  exact rt _ _ _ dX4_about_159 rfl
noncomputable def mX4_addGrant (s_q0 : Nat → Int32) (v1 : Int32) (v2 : Int32) (v3 : Int32) (v4 : Int32) (v5 : Int32) : Option (Nat → Int32) := rd s_q0 66 (0 : Int32) (fun x4 => wr s_q0 66 ((1 : Int32) + ((5 : Int32) * x4)) v1 (fun x13 => wr x13 66 (((1 : Int32) + ((5 : Int32) * x4)) + (1 : Int32)) v2 (fun x20 => wr x20 66 (((1 : Int32) + ((5 : Int32) * x4)) + (2 : Int32)) v3 (fun x27 => wr x27 66 (((1 : Int32) + ((5 : Int32) * x4)) + (3 : Int32)) v4 (fun x35 => wr x35 66 (((1 : Int32) + ((5 : Int32) * x4)) + (4 : Int32)) v5 (fun x43 => rd x43 66 (0 : Int32) (fun x47 => wr x43 66 (0 : Int32) (x47 + (1 : Int32)) (fun x50 => some (x50)))))))))
set_option maxHeartbeats 4000000 in
set_option maxRecDepth 100000 in
theorem okX4_addGrant {l : Launch} {dC : Nat → ClassId} {dI : Nat → Nat → Nat} {cI cC cZ : ClassId} (a_q0 : Nat) (s_q0 : Nat → Int32) (v1 : Int32) (v2 : Int32) (v3 : Int32) (v4 : Int32) (v5 : Int32) (res : Nat → Int32) (hM : mX4_addGrant s_q0 v1 v2 v3 v4 v5 = some res) : Mu l yX4_addGrant cX4_addGrant 7 none 0 0 (dC, dI) cI cC cZ [(a_q0, .inl (cI, 66, .inl s_q0))] [(a_q0, .inl (cI, 66, .inl res))] [.ref a_q0, .int v1, .int v2, .int v3, .int v4, .int v5] none := by
  refine Mu.ofV (by decide) (Nat.le_of_ble_eq_true rfl) [(0, .ref a_q0), (1, .int v1), (2, .int v2), (3, .int v3), (4, .int v4), (5, .int v5)] rfl ?_
  intro p e s m args below meth c ls Q A hx hb hml hown hU hE hP hD hS hA rt hl
  have hown : s.vm.findClass RX4 = some m.cls := hown
  unfold mX4_addGrant at hM
  refine lv_iconst (v := (1 : Int32)) hx hb dX4_addGrant_0 (by decide) ?_
  refine lv_iconst (v := (5 : Int32)) hx hb dX4_addGrant_1 (by decide) ?_
  refine lv_aload_n hx hb dX4_addGrant_2 rfl (lv_at hl 0 rfl) ?_
  refine lv_iconst (v := (0 : Int32)) hx hb dX4_addGrant_3 (by decide) ?_
  obtain ⟨g4, hM⟩ := rd_e hM
  refine va_iald hx hb hE.1 hP 0 0 rfl rfl g4 dX4_addGrant_4 ?_
  refine lv_imul hx hb dX4_addGrant_5 ?_
  refine lv_iadd hx hb dX4_addGrant_6 ?_
  refine lv_istore (lv' := [(6, .int ((1 : Int32) + ((5 : Int32) * (s_q0 (0 : Int32).toNatClampNeg)))), (0, .ref a_q0), (1, .int v1), (2, .int v2), (3, .int v3), (4, .int v4), (5, .int v5)]) hx hb dX4_addGrant_7 hl (by decide) rfl (fun ls hl => ?_)
  refine lv_aload_n hx hb dX4_addGrant_9 rfl (lv_at hl 1 rfl) ?_
  refine lv_iload hx hb dX4_addGrant_10 (lv_at hl 0 rfl) ?_
  refine lv_iload_n hx hb dX4_addGrant_12 rfl (lv_at hl 2 rfl) ?_
  obtain ⟨g13, hM⟩ := wr_e hM
  refine va_iast hx hb hE.1 hP hD hS 0 0 rfl rfl g13 dX4_addGrant_13 (fun H locs hP hD hS => ?_)
  have hP : va_P (dC, dI) vwCl [(a_q0, .inl (cI, 66, .inl (upd s_q0 ((1 : Int32) + ((5 : Int32) * (s_q0 (0 : Int32).toNatClampNeg))).toNatClampNeg v1)))] H := hP
  have hD : va_D A [(a_q0, .inl (cI, 66, .inl (upd s_q0 ((1 : Int32) + ((5 : Int32) * (s_q0 (0 : Int32).toNatClampNeg))).toNatClampNeg v1)))] := hD
  refine lv_aload_n hx hb dX4_addGrant_14 rfl (lv_at hl 1 rfl) ?_
  refine lv_iload hx hb dX4_addGrant_15 (lv_at hl 0 rfl) ?_
  refine lv_iconst (v := (1 : Int32)) hx hb dX4_addGrant_17 (by decide) ?_
  refine lv_iadd hx hb dX4_addGrant_18 ?_
  refine lv_iload_n hx hb dX4_addGrant_19 rfl (lv_at hl 3 rfl) ?_
  obtain ⟨g20, hM⟩ := wr_e hM
  refine va_iast hx hb hE.1 hP hD hS 0 0 rfl rfl g20 dX4_addGrant_20 (fun H locs hP hD hS => ?_)
  have hP : va_P (dC, dI) vwCl [(a_q0, .inl (cI, 66, .inl (upd (upd s_q0 ((1 : Int32) + ((5 : Int32) * (s_q0 (0 : Int32).toNatClampNeg))).toNatClampNeg v1) (((1 : Int32) + ((5 : Int32) * (s_q0 (0 : Int32).toNatClampNeg))) + (1 : Int32)).toNatClampNeg v2)))] H := hP
  have hD : va_D A [(a_q0, .inl (cI, 66, .inl (upd (upd s_q0 ((1 : Int32) + ((5 : Int32) * (s_q0 (0 : Int32).toNatClampNeg))).toNatClampNeg v1) (((1 : Int32) + ((5 : Int32) * (s_q0 (0 : Int32).toNatClampNeg))) + (1 : Int32)).toNatClampNeg v2)))] := hD
  refine lv_aload_n hx hb dX4_addGrant_21 rfl (lv_at hl 1 rfl) ?_
  refine lv_iload hx hb dX4_addGrant_22 (lv_at hl 0 rfl) ?_
  refine lv_iconst (v := (2 : Int32)) hx hb dX4_addGrant_24 (by decide) ?_
  refine lv_iadd hx hb dX4_addGrant_25 ?_
  refine lv_iload_n hx hb dX4_addGrant_26 rfl (lv_at hl 4 rfl) ?_
  obtain ⟨g27, hM⟩ := wr_e hM
  refine va_iast hx hb hE.1 hP hD hS 0 0 rfl rfl g27 dX4_addGrant_27 (fun H locs hP hD hS => ?_)
  have hP : va_P (dC, dI) vwCl [(a_q0, .inl (cI, 66, .inl (upd (upd (upd s_q0 ((1 : Int32) + ((5 : Int32) * (s_q0 (0 : Int32).toNatClampNeg))).toNatClampNeg v1) (((1 : Int32) + ((5 : Int32) * (s_q0 (0 : Int32).toNatClampNeg))) + (1 : Int32)).toNatClampNeg v2) (((1 : Int32) + ((5 : Int32) * (s_q0 (0 : Int32).toNatClampNeg))) + (2 : Int32)).toNatClampNeg v3)))] H := hP
  have hD : va_D A [(a_q0, .inl (cI, 66, .inl (upd (upd (upd s_q0 ((1 : Int32) + ((5 : Int32) * (s_q0 (0 : Int32).toNatClampNeg))).toNatClampNeg v1) (((1 : Int32) + ((5 : Int32) * (s_q0 (0 : Int32).toNatClampNeg))) + (1 : Int32)).toNatClampNeg v2) (((1 : Int32) + ((5 : Int32) * (s_q0 (0 : Int32).toNatClampNeg))) + (2 : Int32)).toNatClampNeg v3)))] := hD
  refine lv_aload_n hx hb dX4_addGrant_28 rfl (lv_at hl 1 rfl) ?_
  refine lv_iload hx hb dX4_addGrant_29 (lv_at hl 0 rfl) ?_
  refine lv_iconst (v := (3 : Int32)) hx hb dX4_addGrant_31 (by decide) ?_
  refine lv_iadd hx hb dX4_addGrant_32 ?_
  refine lv_iload hx hb dX4_addGrant_33 (lv_at hl 5 rfl) ?_
  obtain ⟨g35, hM⟩ := wr_e hM
  refine va_iast hx hb hE.1 hP hD hS 0 0 rfl rfl g35 dX4_addGrant_35 (fun H locs hP hD hS => ?_)
  have hP : va_P (dC, dI) vwCl [(a_q0, .inl (cI, 66, .inl (upd (upd (upd (upd s_q0 ((1 : Int32) + ((5 : Int32) * (s_q0 (0 : Int32).toNatClampNeg))).toNatClampNeg v1) (((1 : Int32) + ((5 : Int32) * (s_q0 (0 : Int32).toNatClampNeg))) + (1 : Int32)).toNatClampNeg v2) (((1 : Int32) + ((5 : Int32) * (s_q0 (0 : Int32).toNatClampNeg))) + (2 : Int32)).toNatClampNeg v3) (((1 : Int32) + ((5 : Int32) * (s_q0 (0 : Int32).toNatClampNeg))) + (3 : Int32)).toNatClampNeg v4)))] H := hP
  have hD : va_D A [(a_q0, .inl (cI, 66, .inl (upd (upd (upd (upd s_q0 ((1 : Int32) + ((5 : Int32) * (s_q0 (0 : Int32).toNatClampNeg))).toNatClampNeg v1) (((1 : Int32) + ((5 : Int32) * (s_q0 (0 : Int32).toNatClampNeg))) + (1 : Int32)).toNatClampNeg v2) (((1 : Int32) + ((5 : Int32) * (s_q0 (0 : Int32).toNatClampNeg))) + (2 : Int32)).toNatClampNeg v3) (((1 : Int32) + ((5 : Int32) * (s_q0 (0 : Int32).toNatClampNeg))) + (3 : Int32)).toNatClampNeg v4)))] := hD
  refine lv_aload_n hx hb dX4_addGrant_36 rfl (lv_at hl 1 rfl) ?_
  refine lv_iload hx hb dX4_addGrant_37 (lv_at hl 0 rfl) ?_
  refine lv_iconst (v := (4 : Int32)) hx hb dX4_addGrant_39 (by decide) ?_
  refine lv_iadd hx hb dX4_addGrant_40 ?_
  refine lv_iload hx hb dX4_addGrant_41 (lv_at hl 6 rfl) ?_
  obtain ⟨g43, hM⟩ := wr_e hM
  refine va_iast hx hb hE.1 hP hD hS 0 0 rfl rfl g43 dX4_addGrant_43 (fun H locs hP hD hS => ?_)
  have hP : va_P (dC, dI) vwCl [(a_q0, .inl (cI, 66, .inl (upd (upd (upd (upd (upd s_q0 ((1 : Int32) + ((5 : Int32) * (s_q0 (0 : Int32).toNatClampNeg))).toNatClampNeg v1) (((1 : Int32) + ((5 : Int32) * (s_q0 (0 : Int32).toNatClampNeg))) + (1 : Int32)).toNatClampNeg v2) (((1 : Int32) + ((5 : Int32) * (s_q0 (0 : Int32).toNatClampNeg))) + (2 : Int32)).toNatClampNeg v3) (((1 : Int32) + ((5 : Int32) * (s_q0 (0 : Int32).toNatClampNeg))) + (3 : Int32)).toNatClampNeg v4) (((1 : Int32) + ((5 : Int32) * (s_q0 (0 : Int32).toNatClampNeg))) + (4 : Int32)).toNatClampNeg v5)))] H := hP
  have hD : va_D A [(a_q0, .inl (cI, 66, .inl (upd (upd (upd (upd (upd s_q0 ((1 : Int32) + ((5 : Int32) * (s_q0 (0 : Int32).toNatClampNeg))).toNatClampNeg v1) (((1 : Int32) + ((5 : Int32) * (s_q0 (0 : Int32).toNatClampNeg))) + (1 : Int32)).toNatClampNeg v2) (((1 : Int32) + ((5 : Int32) * (s_q0 (0 : Int32).toNatClampNeg))) + (2 : Int32)).toNatClampNeg v3) (((1 : Int32) + ((5 : Int32) * (s_q0 (0 : Int32).toNatClampNeg))) + (3 : Int32)).toNatClampNeg v4) (((1 : Int32) + ((5 : Int32) * (s_q0 (0 : Int32).toNatClampNeg))) + (4 : Int32)).toNatClampNeg v5)))] := hD
  refine lv_aload_n hx hb dX4_addGrant_44 rfl (lv_at hl 1 rfl) ?_
  refine lv_iconst (v := (0 : Int32)) hx hb dX4_addGrant_45 (by decide) ?_
  refine lv_dup2_11 hx hb dX4_addGrant_46 rfl rfl ?_
  obtain ⟨g47, hM⟩ := rd_e hM
  refine va_iald hx hb hE.1 hP 0 0 rfl rfl g47 dX4_addGrant_47 ?_
  refine lv_iconst (v := (1 : Int32)) hx hb dX4_addGrant_48 (by decide) ?_
  refine lv_iadd hx hb dX4_addGrant_49 ?_
  obtain ⟨g50, hM⟩ := wr_e hM
  refine va_iast hx hb hE.1 hP hD hS 0 0 rfl rfl g50 dX4_addGrant_50 (fun H locs hP hD hS => ?_)
  have hP : va_P (dC, dI) vwCl [(a_q0, .inl (cI, 66, .inl (upd (upd (upd (upd (upd (upd s_q0 ((1 : Int32) + ((5 : Int32) * (s_q0 (0 : Int32).toNatClampNeg))).toNatClampNeg v1) (((1 : Int32) + ((5 : Int32) * (s_q0 (0 : Int32).toNatClampNeg))) + (1 : Int32)).toNatClampNeg v2) (((1 : Int32) + ((5 : Int32) * (s_q0 (0 : Int32).toNatClampNeg))) + (2 : Int32)).toNatClampNeg v3) (((1 : Int32) + ((5 : Int32) * (s_q0 (0 : Int32).toNatClampNeg))) + (3 : Int32)).toNatClampNeg v4) (((1 : Int32) + ((5 : Int32) * (s_q0 (0 : Int32).toNatClampNeg))) + (4 : Int32)).toNatClampNeg v5) (0 : Int32).toNatClampNeg (((upd (upd (upd (upd (upd s_q0 ((1 : Int32) + ((5 : Int32) * (s_q0 (0 : Int32).toNatClampNeg))).toNatClampNeg v1) (((1 : Int32) + ((5 : Int32) * (s_q0 (0 : Int32).toNatClampNeg))) + (1 : Int32)).toNatClampNeg v2) (((1 : Int32) + ((5 : Int32) * (s_q0 (0 : Int32).toNatClampNeg))) + (2 : Int32)).toNatClampNeg v3) (((1 : Int32) + ((5 : Int32) * (s_q0 (0 : Int32).toNatClampNeg))) + (3 : Int32)).toNatClampNeg v4) (((1 : Int32) + ((5 : Int32) * (s_q0 (0 : Int32).toNatClampNeg))) + (4 : Int32)).toNatClampNeg v5) (0 : Int32).toNatClampNeg) + (1 : Int32)))))] H := hP
  have hD : va_D A [(a_q0, .inl (cI, 66, .inl (upd (upd (upd (upd (upd (upd s_q0 ((1 : Int32) + ((5 : Int32) * (s_q0 (0 : Int32).toNatClampNeg))).toNatClampNeg v1) (((1 : Int32) + ((5 : Int32) * (s_q0 (0 : Int32).toNatClampNeg))) + (1 : Int32)).toNatClampNeg v2) (((1 : Int32) + ((5 : Int32) * (s_q0 (0 : Int32).toNatClampNeg))) + (2 : Int32)).toNatClampNeg v3) (((1 : Int32) + ((5 : Int32) * (s_q0 (0 : Int32).toNatClampNeg))) + (3 : Int32)).toNatClampNeg v4) (((1 : Int32) + ((5 : Int32) * (s_q0 (0 : Int32).toNatClampNeg))) + (4 : Int32)).toNatClampNeg v5) (0 : Int32).toNatClampNeg (((upd (upd (upd (upd (upd s_q0 ((1 : Int32) + ((5 : Int32) * (s_q0 (0 : Int32).toNatClampNeg))).toNatClampNeg v1) (((1 : Int32) + ((5 : Int32) * (s_q0 (0 : Int32).toNatClampNeg))) + (1 : Int32)).toNatClampNeg v2) (((1 : Int32) + ((5 : Int32) * (s_q0 (0 : Int32).toNatClampNeg))) + (2 : Int32)).toNatClampNeg v3) (((1 : Int32) + ((5 : Int32) * (s_q0 (0 : Int32).toNatClampNeg))) + (3 : Int32)).toNatClampNeg v4) (((1 : Int32) + ((5 : Int32) * (s_q0 (0 : Int32).toNatClampNeg))) + (4 : Int32)).toNatClampNeg v5) (0 : Int32).toNatClampNeg) + (1 : Int32)))))] := hD
  cases hM
  exact rt _ _ _ _ hP hS dX4_addGrant_51 rfl
noncomputable def mX4_addRoute (s_q0 : Nat → Int32) (v1 : Int32) (v2 : Int32) (v3 : Int32) : Option (Nat → Int32) := rd s_q0 66 (41 : Int32) (fun x6 => wr s_q0 66 ((42 : Int32) + ((3 : Int32) * x6)) v1 (fun x15 => wr x15 66 (((42 : Int32) + ((3 : Int32) * x6)) + (1 : Int32)) v2 (fun x22 => wr x22 66 (((42 : Int32) + ((3 : Int32) * x6)) + (2 : Int32)) v3 (fun x29 => rd x29 66 (41 : Int32) (fun x34 => wr x29 66 (41 : Int32) (x34 + (1 : Int32)) (fun x37 => some (x37)))))))
set_option maxHeartbeats 4000000 in
set_option maxRecDepth 100000 in
theorem okX4_addRoute {l : Launch} {dC : Nat → ClassId} {dI : Nat → Nat → Nat} {cI cC cZ : ClassId} (a_q0 : Nat) (s_q0 : Nat → Int32) (v1 : Int32) (v2 : Int32) (v3 : Int32) (res : Nat → Int32) (hM : mX4_addRoute s_q0 v1 v2 v3 = some res) : Mu l yX4_addRoute cX4_addRoute 5 none 0 0 (dC, dI) cI cC cZ [(a_q0, .inl (cI, 66, .inl s_q0))] [(a_q0, .inl (cI, 66, .inl res))] [.ref a_q0, .int v1, .int v2, .int v3] none := by
  refine Mu.ofV (by decide) (Nat.le_of_ble_eq_true rfl) [(0, .ref a_q0), (1, .int v1), (2, .int v2), (3, .int v3)] rfl ?_
  intro p e s m args below meth c ls Q A hx hb hml hown hU hE hP hD hS hA rt hl
  have hown : s.vm.findClass RX4 = some m.cls := hown
  unfold mX4_addRoute at hM
  refine lv_bipush (v := (42 : Int32)) hx hb dX4_addRoute_0 (by decide) ?_
  refine lv_iconst (v := (3 : Int32)) hx hb dX4_addRoute_2 (by decide) ?_
  refine lv_aload_n hx hb dX4_addRoute_3 rfl (lv_at hl 0 rfl) ?_
  refine lv_bipush (v := (41 : Int32)) hx hb dX4_addRoute_4 (by decide) ?_
  obtain ⟨g6, hM⟩ := rd_e hM
  refine va_iald hx hb hE.1 hP 0 0 rfl rfl g6 dX4_addRoute_6 ?_
  refine lv_imul hx hb dX4_addRoute_7 ?_
  refine lv_iadd hx hb dX4_addRoute_8 ?_
  refine lv_istore (lv' := [(4, .int ((42 : Int32) + ((3 : Int32) * (s_q0 (41 : Int32).toNatClampNeg)))), (0, .ref a_q0), (1, .int v1), (2, .int v2), (3, .int v3)]) hx hb dX4_addRoute_9 hl (by decide) rfl (fun ls hl => ?_)
  refine lv_aload_n hx hb dX4_addRoute_11 rfl (lv_at hl 1 rfl) ?_
  refine lv_iload hx hb dX4_addRoute_12 (lv_at hl 0 rfl) ?_
  refine lv_iload_n hx hb dX4_addRoute_14 rfl (lv_at hl 2 rfl) ?_
  obtain ⟨g15, hM⟩ := wr_e hM
  refine va_iast hx hb hE.1 hP hD hS 0 0 rfl rfl g15 dX4_addRoute_15 (fun H locs hP hD hS => ?_)
  have hP : va_P (dC, dI) vwCl [(a_q0, .inl (cI, 66, .inl (upd s_q0 ((42 : Int32) + ((3 : Int32) * (s_q0 (41 : Int32).toNatClampNeg))).toNatClampNeg v1)))] H := hP
  have hD : va_D A [(a_q0, .inl (cI, 66, .inl (upd s_q0 ((42 : Int32) + ((3 : Int32) * (s_q0 (41 : Int32).toNatClampNeg))).toNatClampNeg v1)))] := hD
  refine lv_aload_n hx hb dX4_addRoute_16 rfl (lv_at hl 1 rfl) ?_
  refine lv_iload hx hb dX4_addRoute_17 (lv_at hl 0 rfl) ?_
  refine lv_iconst (v := (1 : Int32)) hx hb dX4_addRoute_19 (by decide) ?_
  refine lv_iadd hx hb dX4_addRoute_20 ?_
  refine lv_iload_n hx hb dX4_addRoute_21 rfl (lv_at hl 3 rfl) ?_
  obtain ⟨g22, hM⟩ := wr_e hM
  refine va_iast hx hb hE.1 hP hD hS 0 0 rfl rfl g22 dX4_addRoute_22 (fun H locs hP hD hS => ?_)
  have hP : va_P (dC, dI) vwCl [(a_q0, .inl (cI, 66, .inl (upd (upd s_q0 ((42 : Int32) + ((3 : Int32) * (s_q0 (41 : Int32).toNatClampNeg))).toNatClampNeg v1) (((42 : Int32) + ((3 : Int32) * (s_q0 (41 : Int32).toNatClampNeg))) + (1 : Int32)).toNatClampNeg v2)))] H := hP
  have hD : va_D A [(a_q0, .inl (cI, 66, .inl (upd (upd s_q0 ((42 : Int32) + ((3 : Int32) * (s_q0 (41 : Int32).toNatClampNeg))).toNatClampNeg v1) (((42 : Int32) + ((3 : Int32) * (s_q0 (41 : Int32).toNatClampNeg))) + (1 : Int32)).toNatClampNeg v2)))] := hD
  refine lv_aload_n hx hb dX4_addRoute_23 rfl (lv_at hl 1 rfl) ?_
  refine lv_iload hx hb dX4_addRoute_24 (lv_at hl 0 rfl) ?_
  refine lv_iconst (v := (2 : Int32)) hx hb dX4_addRoute_26 (by decide) ?_
  refine lv_iadd hx hb dX4_addRoute_27 ?_
  refine lv_iload_n hx hb dX4_addRoute_28 rfl (lv_at hl 4 rfl) ?_
  obtain ⟨g29, hM⟩ := wr_e hM
  refine va_iast hx hb hE.1 hP hD hS 0 0 rfl rfl g29 dX4_addRoute_29 (fun H locs hP hD hS => ?_)
  have hP : va_P (dC, dI) vwCl [(a_q0, .inl (cI, 66, .inl (upd (upd (upd s_q0 ((42 : Int32) + ((3 : Int32) * (s_q0 (41 : Int32).toNatClampNeg))).toNatClampNeg v1) (((42 : Int32) + ((3 : Int32) * (s_q0 (41 : Int32).toNatClampNeg))) + (1 : Int32)).toNatClampNeg v2) (((42 : Int32) + ((3 : Int32) * (s_q0 (41 : Int32).toNatClampNeg))) + (2 : Int32)).toNatClampNeg v3)))] H := hP
  have hD : va_D A [(a_q0, .inl (cI, 66, .inl (upd (upd (upd s_q0 ((42 : Int32) + ((3 : Int32) * (s_q0 (41 : Int32).toNatClampNeg))).toNatClampNeg v1) (((42 : Int32) + ((3 : Int32) * (s_q0 (41 : Int32).toNatClampNeg))) + (1 : Int32)).toNatClampNeg v2) (((42 : Int32) + ((3 : Int32) * (s_q0 (41 : Int32).toNatClampNeg))) + (2 : Int32)).toNatClampNeg v3)))] := hD
  refine lv_aload_n hx hb dX4_addRoute_30 rfl (lv_at hl 1 rfl) ?_
  refine lv_bipush (v := (41 : Int32)) hx hb dX4_addRoute_31 (by decide) ?_
  refine lv_dup2_11 hx hb dX4_addRoute_33 rfl rfl ?_
  obtain ⟨g34, hM⟩ := rd_e hM
  refine va_iald hx hb hE.1 hP 0 0 rfl rfl g34 dX4_addRoute_34 ?_
  refine lv_iconst (v := (1 : Int32)) hx hb dX4_addRoute_35 (by decide) ?_
  refine lv_iadd hx hb dX4_addRoute_36 ?_
  obtain ⟨g37, hM⟩ := wr_e hM
  refine va_iast hx hb hE.1 hP hD hS 0 0 rfl rfl g37 dX4_addRoute_37 (fun H locs hP hD hS => ?_)
  have hP : va_P (dC, dI) vwCl [(a_q0, .inl (cI, 66, .inl (upd (upd (upd (upd s_q0 ((42 : Int32) + ((3 : Int32) * (s_q0 (41 : Int32).toNatClampNeg))).toNatClampNeg v1) (((42 : Int32) + ((3 : Int32) * (s_q0 (41 : Int32).toNatClampNeg))) + (1 : Int32)).toNatClampNeg v2) (((42 : Int32) + ((3 : Int32) * (s_q0 (41 : Int32).toNatClampNeg))) + (2 : Int32)).toNatClampNeg v3) (41 : Int32).toNatClampNeg (((upd (upd (upd s_q0 ((42 : Int32) + ((3 : Int32) * (s_q0 (41 : Int32).toNatClampNeg))).toNatClampNeg v1) (((42 : Int32) + ((3 : Int32) * (s_q0 (41 : Int32).toNatClampNeg))) + (1 : Int32)).toNatClampNeg v2) (((42 : Int32) + ((3 : Int32) * (s_q0 (41 : Int32).toNatClampNeg))) + (2 : Int32)).toNatClampNeg v3) (41 : Int32).toNatClampNeg) + (1 : Int32)))))] H := hP
  have hD : va_D A [(a_q0, .inl (cI, 66, .inl (upd (upd (upd (upd s_q0 ((42 : Int32) + ((3 : Int32) * (s_q0 (41 : Int32).toNatClampNeg))).toNatClampNeg v1) (((42 : Int32) + ((3 : Int32) * (s_q0 (41 : Int32).toNatClampNeg))) + (1 : Int32)).toNatClampNeg v2) (((42 : Int32) + ((3 : Int32) * (s_q0 (41 : Int32).toNatClampNeg))) + (2 : Int32)).toNatClampNeg v3) (41 : Int32).toNatClampNeg (((upd (upd (upd s_q0 ((42 : Int32) + ((3 : Int32) * (s_q0 (41 : Int32).toNatClampNeg))).toNatClampNeg v1) (((42 : Int32) + ((3 : Int32) * (s_q0 (41 : Int32).toNatClampNeg))) + (1 : Int32)).toNatClampNeg v2) (((42 : Int32) + ((3 : Int32) * (s_q0 (41 : Int32).toNatClampNeg))) + (2 : Int32)).toNatClampNeg v3) (41 : Int32).toNatClampNeg) + (1 : Int32)))))] := hD
  cases hM
  exact rt _ _ _ _ hP hS dX4_addRoute_38 rfl
noncomputable def mX4_in (v0 : Int64) (v2 : Int64) (v4 : Int64) : Option (Bool) := (if (lg_cmp v0 v2) < 0 then some (false) else (if 0 < (lg_cmp v0 v4) then some (false) else some (true)))
set_option maxHeartbeats 4000000 in
set_option maxRecDepth 100000 in
theorem okX4_in {l : Launch} {dC : Nat → ClassId} {dI : Nat → Nat → Nat} {cI cC cZ : ClassId} (v0 : Int64) (v2 : Int64) (v4 : Int64) (res : Bool) (hM : mX4_in v0 v2 v4 = some res) : Rd l yX4_in cX4_in 6 (some .boolean) 0 0 (dC, dI) cI cC cZ [] [.long v0, .long v2, .long v4] (some (.int (b2i res))) := by
  refine Rd.ofZ (by decide) (Nat.le_of_ble_eq_true rfl) [(0, .long v0), (2, .long v2), (4, .long v4)] rfl ?_
  intro p e s m args below meth c ls Q hx hb hml hown hU hE hP rt hl
  have hown : s.vm.findClass RX4 = some m.cls := hown
  unfold mX4_in at hM
  refine lv_lload_n hx hb dX4_in_0 rfl (lv_at hl 0 rfl) ?_
  refine lv_lload_n hx hb dX4_in_1 rfl (lv_at hl 1 rfl) ?_
  refine W.lcmp hx hb dX4_in_2 ?_
  refine lv_if_lt (tgt := 17) hx hb dX4_in_3 (by decide) (fun c3 => ?_) (fun c3 => ?_)
  · have hM := ite_t c3 hM
    refine lv_iconst (v := (0 : Int32)) hx hb dX4_in_17 (by decide) ?_
    cases hM
    exact rt false _ _ dX4_in_18 rfl
  · have hM := ite_f c3 hM
    refine lv_lload_n hx hb dX4_in_6 rfl (lv_at hl 0 rfl) ?_
    refine lv_lload hx hb dX4_in_7 (lv_at hl 2 rfl) ?_
    refine W.lcmp hx hb dX4_in_9 ?_
    refine lv_if_gt (tgt := 17) hx hb dX4_in_10 (by decide) (fun c10 => ?_) (fun c10 => ?_)
    · have hM := ite_t c10 hM
      refine lv_iconst (v := (0 : Int32)) hx hb dX4_in_17 (by decide) ?_
      cases hM
      exact rt false _ _ dX4_in_18 rfl
    · have hM := ite_f c10 hM
      refine lv_iconst (v := (1 : Int32)) hx hb dX4_in_13 (by decide) ?_
      refine lv_goto (tgt := 18) hx hb dX4_in_14 (by decide) ?_
      cases hM
      exact rt true _ _ dX4_in_18 rfl
noncomputable def mX4_again_b26 (s_t : Int32 × Int32 × Int32 × Int32 × Int32 × Int32 × Int32 × Int32 × Int32 × Int64) (s_t_isKept : Nat → Int32) (s_t_kept : Nat → Int32) (v1 : Int32) : Nat → Int32 → (Nat → Int32) → Option (Int32 × (Int32 × Int32 × Int32 × Int32 × Int32 × Int32 × Int32 × Int32 × Int32 × Int64) × (Nat → Int32))
  | 0, _, _ => none
  | n + 1, v2, s_t_now => (if (66 : Int32) ≤ v2 then rd s_t_now 66 (41 : Int32) (fun x66 => some (x66, (s_t.1, s_t.2.1, (0 : Int32), s_t.2.2.2.1, s_t.2.2.2.2.1, s_t.2.2.2.2.2.1, s_t.2.2.2.2.2.2.1, s_t.2.2.2.2.2.2.2.1, s_t.2.2.2.2.2.2.2.2.1, s_t.2.2.2.2.2.2.2.2.2), s_t_now)) else rd s_t_kept 132 (((66 : Int32) * v1) + v2) (fun x47 => wr s_t_now 66 v2 x47 (fun x48 => mX4_again_b26 s_t s_t_isKept s_t_kept v1 n (v2 + (1 : Int32)) x48)))
noncomputable def mX4_again (s_t : Int32 × Int32 × Int32 × Int32 × Int32 × Int32 × Int32 × Int32 × Int32 × Int64) (s_t_isKept : Nat → Int32) (s_t_now : Nat → Int32) (s_t_kept : Nat → Int32) (v1 : Int32) : Option (Int32 × (Int32 × Int32 × Int32 × Int32 × Int32 × Int32 × Int32 × Int32 × Int32 × Int64) × (Nat → Int32)) := (mX4_in (v1.toInt64) (0 : Int64) (1 : Int64)).bind (fun x4 => (if x4 = true then rd s_t_isKept 2 v1 (fun x17 => (if x17 = 0 then some ((-3 : Int32), s_t, s_t_now) else mX4_again_b26 s_t s_t_isKept s_t_kept v1 FU (0 : Int32) s_t_now)) else some ((-1 : Int32), s_t, s_t_now)))
set_option maxHeartbeats 4000000 in
set_option maxRecDepth 100000 in
theorem okX4_again {l : Launch} {dC : Nat → ClassId} {dI : Nat → Nat → Nat} {cI cC cZ : ClassId} (a_t a_t_text a_t_paper a_t_now a_t_trial a_t_diary a_t_kept a_t_isKept a_t_seenAt a_t_worth a_t_readPaper a_t_read : Nat) (s_t : Int32 × Int32 × Int32 × Int32 × Int32 × Int32 × Int32 × Int32 × Int32 × Int64) (s_t_isKept : Nat → Int32) (s_t_now : Nat → Int32) (s_t_kept : Nat → Int32) (v1 : Int32) (res : Int32 × (Int32 × Int32 × Int32 × Int32 × Int32 × Int32 × Int32 × Int32 × Int32 × Int64) × (Nat → Int32)) (hM : mX4_again s_t s_t_isKept s_t_now s_t_kept v1 = some res) : Mu l yX4_again cX4_again 3 (some .int) 1 25 (dC, dI) cI cC cZ [(a_t, .inr (4, [.ref a_t_text, .int s_t.1, .int s_t.2.1, .ref a_t_paper, .ref a_t_now, .ref a_t_trial, .ref a_t_diary, .int s_t.2.2.1, .int s_t.2.2.2.1, .ref a_t_kept, .ref a_t_isKept, .ref a_t_seenAt, .int s_t.2.2.2.2.1, .long s_t.2.2.2.2.2.2.2.2.2, .ref a_t_worth, .int s_t.2.2.2.2.2.1, .int s_t.2.2.2.2.2.2.1, .ref a_t_readPaper, .ref a_t_read, .int s_t.2.2.2.2.2.2.2.1, .int s_t.2.2.2.2.2.2.2.2.1])), (a_t_isKept, .inl (cZ, 2, .inl s_t_isKept)), (a_t_now, .inl (cI, 66, .inl s_t_now)), (a_t_kept, .inl (cI, 132, .inl s_t_kept))] [(a_t, .inr (4, [.ref a_t_text, .int res.2.1.1, .int res.2.1.2.1, .ref a_t_paper, .ref a_t_now, .ref a_t_trial, .ref a_t_diary, .int res.2.1.2.2.1, .int res.2.1.2.2.2.1, .ref a_t_kept, .ref a_t_isKept, .ref a_t_seenAt, .int res.2.1.2.2.2.2.1, .long res.2.1.2.2.2.2.2.2.2.2.2, .ref a_t_worth, .int res.2.1.2.2.2.2.2.1, .int res.2.1.2.2.2.2.2.2.1, .ref a_t_readPaper, .ref a_t_read, .int res.2.1.2.2.2.2.2.2.2.1, .int res.2.1.2.2.2.2.2.2.2.2.1])), (a_t_isKept, .inl (cZ, 2, .inl s_t_isKept)), (a_t_now, .inl (cI, 66, .inl res.2.2)), (a_t_kept, .inl (cI, 132, .inl s_t_kept))] [.ref a_t, .int v1] (some (.int res.1)) := by
  refine Mu.ofI (by decide) (Nat.le_of_ble_eq_true rfl) [(0, .ref a_t), (1, .int v1)] rfl ?_
  intro p e s m args below meth c ls Q A hx hb hml hown hU hE hP hD hS hA rt hl
  have hown : s.vm.findClass RX4 = some m.cls := hown
  unfold mX4_again at hM
  refine lv_iload_n hx hb dX4_again_0 rfl (lv_at hl 1 rfl) ?_
  refine lv_i2l (v := (v1.toInt64)) hx hb dX4_again_1 rfl ?_
  refine lv_lconst (v := (0 : Int64)) hx hb dX4_again_2 (by decide) ?_
  refine lv_lconst (v := (1 : Int64)) hx hb dX4_again_3 (by decide) ?_
  obtain ⟨x4, h4, hM⟩ := bind_e hM
  refine rdS (As := [.long (v1.toInt64), .long (0 : Int64), .long (1 : Int64)]) (rest := []) (st2 := [.int (b2i x4)]) ⟨hx, hb, hml, hown, hU⟩ hE (okX4_in (v1.toInt64) (0 : Int64) (1 : Int64) x4 h4) lk_X4_50 (hP.sub [] rfl) rfl hl.1 rfl (Nat.le_of_ble_eq_true rfl) ⟨Nat.le_of_ble_eq_true rfl, Nat.le_of_ble_eq_true rfl⟩ dX4_again_4 ⟨Nat.le_refl _, Nat.le_refl _⟩ rfl ?_
  refine lv_if_ne (tgt := 12) hx hb dX4_again_7 (by decide) (fun c7 => ?_) (fun c7 => ?_)
  · have hM := ite_t (b2i_ne0 c7) hM
    refine lv_aload_n hx hb dX4_again_12 rfl (lv_at hl 0 rfl) ?_
    refine va_get (D := (dC, dI)) (ci := 4) (v := .ref a_t_isKept) (C := RX4) (T := TX4) (N := 21) hx hb hU inlX4 hown hE.1 hP 0 rfl rfl 10 (by decide) (hU _ u_4_20) (fun _ h9 => h9) rfl dX4_again_13 ?_
    refine lv_iload_n hx hb dX4_again_16 rfl (lv_at hl 1 rfl) ?_
    obtain ⟨g17, hM⟩ := rd_e hM
    refine va_zald hx hb hE.1 hP 1 2 rfl rfl g17 dX4_again_17 ?_
    refine lv_if_ne (tgt := 24) hx hb dX4_again_18 (by decide) (fun c18 => ?_) (fun c18 => ?_)
    · have hM := ite_f c18 hM
      refine lv_iconst (v := (0 : Int32)) hx hb dX4_again_24 (by decide) ?_
      refine lv_istore_n (lv' := [(2, .int (0 : Int32)), (0, .ref a_t), (1, .int v1)]) hx hb dX4_again_25 rfl hl (by decide) rfl (fun ls hl => ?_)
      have w_26 : ∀ (n : Nat) (v2_26 : Int32) (s_t_now_26 : Nat → Int32), mX4_again_b26 s_t s_t_isKept s_t_kept v1 n v2_26 s_t_now_26 = some res → ∀ (ls : Array Slot) (H : Heap) (locs : List Loc), va_P (dC, dI) vwCl [(a_t, .inr (4, [.ref a_t_text, .int s_t.1, .int s_t.2.1, .ref a_t_paper, .ref a_t_now, .ref a_t_trial, .ref a_t_diary, .int s_t.2.2.1, .int s_t.2.2.2.1, .ref a_t_kept, .ref a_t_isKept, .ref a_t_seenAt, .int s_t.2.2.2.2.1, .long s_t.2.2.2.2.2.2.2.2.2, .ref a_t_worth, .int s_t.2.2.2.2.2.1, .int s_t.2.2.2.2.2.2.1, .ref a_t_readPaper, .ref a_t_read, .int s_t.2.2.2.2.2.2.2.1, .int s_t.2.2.2.2.2.2.2.2.1])), (a_t_isKept, .inl (cZ, 2, .inl s_t_isKept)), (a_t_now, .inl (cI, 66, .inl s_t_now_26)), (a_t_kept, .inl (cI, 132, .inl s_t_kept))] H → va_D A [(a_t, .inr (4, [.ref a_t_text, .int s_t.1, .int s_t.2.1, .ref a_t_paper, .ref a_t_now, .ref a_t_trial, .ref a_t_diary, .int s_t.2.2.1, .int s_t.2.2.2.1, .ref a_t_kept, .ref a_t_isKept, .ref a_t_seenAt, .int s_t.2.2.2.2.1, .long s_t.2.2.2.2.2.2.2.2.2, .ref a_t_worth, .int s_t.2.2.2.2.2.1, .int s_t.2.2.2.2.2.2.1, .ref a_t_readPaper, .ref a_t_read, .int s_t.2.2.2.2.2.2.2.1, .int s_t.2.2.2.2.2.2.2.2.1])), (a_t_isKept, .inl (cZ, 2, .inl s_t_isKept)), (a_t_now, .inl (cI, 66, .inl s_t_now_26)), (a_t_kept, .inl (cI, 132, .inl s_t_kept))] → va_S A s.heap H locs → lv_has ls 3 [(0, .ref a_t), (1, .int v1), (2, .int v2_26)] → W p l e (RM 1 25) s m args below meth c H locs 0 0 Q (F0 m 26 ls []) := by
        intro n
        induction n with
        | zero =>
          intro v2_26 s_t_now_26 hM
          rw [mX4_again_b26] at hM
          cases hM
        | succ n_26 ih_26 =>
          intro v2_26 s_t_now_26 hM ls H locs hP hD hS hl
          rw [mX4_again_b26] at hM
          refine lv_iload_n hx hb dX4_again_26 rfl (lv_at hl 2 rfl) ?_
          refine lv_bipush (v := (66 : Int32)) hx hb dX4_again_27 (by decide) ?_
          refine lv_icmp_ge (tgt := 55) hx hb dX4_again_29 (by decide) (fun c29 => ?_) (fun c29 => ?_)
          · have hM := ite_t c29 hM
            refine lv_aload_n hx hb dX4_again_55 rfl (lv_at hl 0 rfl) ?_
            refine lv_iconst (v := (0 : Int32)) hx hb dX4_again_56 (by decide) ?_
            refine va_put (D := (dC, dI)) (ci := 4) (v := .int (0 : Int32)) (ty := .int) (C := RX4) (T := TX4) (N := 21) hx hb hU inlX4 tyX4 tyX4_ok nmX4 hown hE.1 hP hD hS 0 rfl rfl 7 (by decide) (hU _ u_11_10) (fun _ h9 => h9) rfl (tyX4_ok 7 (by decide)) rfl rfl (Nat.le_of_ble_eq_true rfl) dX4_again_57 (fun H locs hP hD hS => ?_)
            have hP : va_P (dC, dI) vwCl [(a_t, .inr (4, [.ref a_t_text, .int s_t.1, .int s_t.2.1, .ref a_t_paper, .ref a_t_now, .ref a_t_trial, .ref a_t_diary, .int (0 : Int32), .int s_t.2.2.2.1, .ref a_t_kept, .ref a_t_isKept, .ref a_t_seenAt, .int s_t.2.2.2.2.1, .long s_t.2.2.2.2.2.2.2.2.2, .ref a_t_worth, .int s_t.2.2.2.2.2.1, .int s_t.2.2.2.2.2.2.1, .ref a_t_readPaper, .ref a_t_read, .int s_t.2.2.2.2.2.2.2.1, .int s_t.2.2.2.2.2.2.2.2.1])), (a_t_isKept, .inl (cZ, 2, .inl s_t_isKept)), (a_t_now, .inl (cI, 66, .inl s_t_now_26)), (a_t_kept, .inl (cI, 132, .inl s_t_kept))] H := hP
            have hD : va_D A [(a_t, .inr (4, [.ref a_t_text, .int s_t.1, .int s_t.2.1, .ref a_t_paper, .ref a_t_now, .ref a_t_trial, .ref a_t_diary, .int (0 : Int32), .int s_t.2.2.2.1, .ref a_t_kept, .ref a_t_isKept, .ref a_t_seenAt, .int s_t.2.2.2.2.1, .long s_t.2.2.2.2.2.2.2.2.2, .ref a_t_worth, .int s_t.2.2.2.2.2.1, .int s_t.2.2.2.2.2.2.1, .ref a_t_readPaper, .ref a_t_read, .int s_t.2.2.2.2.2.2.2.1, .int s_t.2.2.2.2.2.2.2.2.1])), (a_t_isKept, .inl (cZ, 2, .inl s_t_isKept)), (a_t_now, .inl (cI, 66, .inl s_t_now_26)), (a_t_kept, .inl (cI, 132, .inl s_t_kept))] := hD
            refine lv_aload_n hx hb dX4_again_60 rfl (lv_at hl 0 rfl) ?_
            refine va_get (D := (dC, dI)) (ci := 4) (v := .ref a_t_now) (C := RX4) (T := TX4) (N := 21) hx hb hU inlX4 hown hE.1 hP 0 rfl rfl 4 (by decide) (hU _ u_4_15) (fun _ h9 => h9) rfl dX4_again_61 ?_
            refine lv_bipush (v := (41 : Int32)) hx hb dX4_again_64 (by decide) ?_
            obtain ⟨g66, hM⟩ := rd_e hM
            refine va_iald hx hb hE.1 hP 2 0 rfl rfl g66 dX4_again_66 ?_
            cases hM
            exact rt _ _ _ _ _ hP hS dX4_again_67 rfl
          · have hM := ite_f c29 hM
            refine lv_aload_n hx hb dX4_again_32 rfl (lv_at hl 0 rfl) ?_
            refine va_get (D := (dC, dI)) (ci := 4) (v := .ref a_t_now) (C := RX4) (T := TX4) (N := 21) hx hb hU inlX4 hown hE.1 hP 0 rfl rfl 4 (by decide) (hU _ u_4_15) (fun _ h9 => h9) rfl dX4_again_33 ?_
            refine lv_iload_n hx hb dX4_again_36 rfl (lv_at hl 2 rfl) ?_
            refine lv_aload_n hx hb dX4_again_37 rfl (lv_at hl 0 rfl) ?_
            refine va_get (D := (dC, dI)) (ci := 4) (v := .ref a_t_kept) (C := RX4) (T := TX4) (N := 21) hx hb hU inlX4 hown hE.1 hP 0 rfl rfl 9 (by decide) (hU _ u_4_18) (fun _ h9 => h9) rfl dX4_again_38 ?_
            refine lv_bipush (v := (66 : Int32)) hx hb dX4_again_41 (by decide) ?_
            refine lv_iload_n hx hb dX4_again_43 rfl (lv_at hl 1 rfl) ?_
            refine lv_imul hx hb dX4_again_44 ?_
            refine lv_iload_n hx hb dX4_again_45 rfl (lv_at hl 2 rfl) ?_
            refine lv_iadd hx hb dX4_again_46 ?_
            obtain ⟨g47, hM⟩ := rd_e hM
            refine va_iald hx hb hE.1 hP 3 0 rfl rfl g47 dX4_again_47 ?_
            obtain ⟨g48, hM⟩ := wr_e hM
            refine va_iast hx hb hE.1 hP hD hS 2 0 rfl rfl g48 dX4_again_48 (fun H locs hP hD hS => ?_)
            have hP : va_P (dC, dI) vwCl [(a_t, .inr (4, [.ref a_t_text, .int s_t.1, .int s_t.2.1, .ref a_t_paper, .ref a_t_now, .ref a_t_trial, .ref a_t_diary, .int s_t.2.2.1, .int s_t.2.2.2.1, .ref a_t_kept, .ref a_t_isKept, .ref a_t_seenAt, .int s_t.2.2.2.2.1, .long s_t.2.2.2.2.2.2.2.2.2, .ref a_t_worth, .int s_t.2.2.2.2.2.1, .int s_t.2.2.2.2.2.2.1, .ref a_t_readPaper, .ref a_t_read, .int s_t.2.2.2.2.2.2.2.1, .int s_t.2.2.2.2.2.2.2.2.1])), (a_t_isKept, .inl (cZ, 2, .inl s_t_isKept)), (a_t_now, .inl (cI, 66, .inl (upd s_t_now_26 v2_26.toNatClampNeg (s_t_kept (((66 : Int32) * v1) + v2_26).toNatClampNeg)))), (a_t_kept, .inl (cI, 132, .inl s_t_kept))] H := hP
            have hD : va_D A [(a_t, .inr (4, [.ref a_t_text, .int s_t.1, .int s_t.2.1, .ref a_t_paper, .ref a_t_now, .ref a_t_trial, .ref a_t_diary, .int s_t.2.2.1, .int s_t.2.2.2.1, .ref a_t_kept, .ref a_t_isKept, .ref a_t_seenAt, .int s_t.2.2.2.2.1, .long s_t.2.2.2.2.2.2.2.2.2, .ref a_t_worth, .int s_t.2.2.2.2.2.1, .int s_t.2.2.2.2.2.2.1, .ref a_t_readPaper, .ref a_t_read, .int s_t.2.2.2.2.2.2.2.1, .int s_t.2.2.2.2.2.2.2.2.1])), (a_t_isKept, .inl (cZ, 2, .inl s_t_isKept)), (a_t_now, .inl (cI, 66, .inl (upd s_t_now_26 v2_26.toNatClampNeg (s_t_kept (((66 : Int32) * v1) + v2_26).toNatClampNeg)))), (a_t_kept, .inl (cI, 132, .inl s_t_kept))] := hD
            refine lv_iinc (v := (v2_26 + (1 : Int32))) (lv' := [(2, .int (v2_26 + (1 : Int32))), (0, .ref a_t), (1, .int v1)]) hx hb dX4_again_49 hl (k := 2) rfl rfl (by decide) rfl (fun ls hl => ?_)
            refine lv_goto (tgt := 26) hx hb dX4_again_52 (by decide) ?_
            exact ih_26 (v2_26 + (1 : Int32)) (upd s_t_now_26 v2_26.toNatClampNeg (s_t_kept (((66 : Int32) * v1) + v2_26).toNatClampNeg)) hM ls _ _ hP hD hS (lv_sub hl [1, 2, 0] rfl)
      exact w_26 FU (0 : Int32) s_t_now hM ls _ _ hP hD hS (lv_sub hl [1, 2, 0] rfl)
    · have hM := ite_t c18 hM
      refine lv_bipush (v := (-3 : Int32)) hx hb dX4_again_21 (by decide) ?_
      cases hM
      exact rt _ _ _ _ _ hP hS dX4_again_23 rfl
  · have hM := ite_f (b2i_eq0 c7) hM
    refine lv_iconst (v := (-1 : Int32)) hx hb dX4_again_10 (by decide) ?_
    cases hM
    exact rt _ _ _ _ _ hP hS dX4_again_11 rfl
noncomputable def mX4_isOrigin (v0 : Int32) : Option (Bool) := (mX4_in (v0.toInt64) (0 : Int64) (5 : Int64)).bind (fun x6 => some (x6))
set_option maxHeartbeats 4000000 in
set_option maxRecDepth 100000 in
theorem okX4_isOrigin {l : Launch} {dC : Nat → ClassId} {dI : Nat → Nat → Nat} {cI cC cZ : ClassId} (v0 : Int32) (res : Bool) (hM : mX4_isOrigin v0 = some res) : Rd l yX4_isOrigin cX4_isOrigin 1 (some .boolean) 1 25 (dC, dI) cI cC cZ [] [.int v0] (some (.int (b2i res))) := by
  refine Rd.ofZ (by decide) (Nat.le_of_ble_eq_true rfl) [(0, .int v0)] rfl ?_
  intro p e s m args below meth c ls Q hx hb hml hown hU hE hP rt hl
  have hown : s.vm.findClass RX4 = some m.cls := hown
  unfold mX4_isOrigin at hM
  refine lv_iload_n hx hb dX4_isOrigin_0 rfl (lv_at hl 0 rfl) ?_
  refine lv_i2l (v := (v0.toInt64)) hx hb dX4_isOrigin_1 rfl ?_
  refine lv_lconst (v := (0 : Int64)) hx hb dX4_isOrigin_2 (by decide) ?_
  refine lv_ldc2 hx hb hown (hU _ u_9_14) dX4_isOrigin_3 ?_
  obtain ⟨x6, h6, hM⟩ := bind_e hM
  refine rdS (As := [.long (v0.toInt64), .long (0 : Int64), .long (5 : Int64)]) (rest := []) (st2 := [.int (b2i x6)]) ⟨hx, hb, hml, hown, hU⟩ hE (okX4_in (v0.toInt64) (0 : Int64) (5 : Int64) x6 h6) lk_X4_50 (hP.sub [] rfl) rfl hl.1 rfl (Nat.le_of_ble_eq_true rfl) ⟨Nat.le_of_ble_eq_true rfl, Nat.le_of_ble_eq_true rfl⟩ dX4_isOrigin_6 ⟨Nat.le_refl _, Nat.le_refl _⟩ rfl ?_
  cases hM
  exact rt _ _ _ dX4_isOrigin_9 rfl
noncomputable def mX4_isPaper (s_t : Int32 × Int32 × Int32 × Int32 × Int32 × Int32 × Int32 × Int32 × Int32 × Int64) (v1 : Int32) : Option (Bool) := (mX4_in (v1.toInt64) (0 : Int64) ((s_t.2.1 - (1 : Int32)).toInt64)).bind (fun x10 => some (x10))
set_option maxHeartbeats 4000000 in
set_option maxRecDepth 100000 in
theorem okX4_isPaper {l : Launch} {dC : Nat → ClassId} {dI : Nat → Nat → Nat} {cI cC cZ : ClassId} (a_t a_t_text a_t_paper a_t_now a_t_trial a_t_diary a_t_kept a_t_isKept a_t_seenAt a_t_worth a_t_readPaper a_t_read : Nat) (s_t : Int32 × Int32 × Int32 × Int32 × Int32 × Int32 × Int32 × Int32 × Int32 × Int64) (v1 : Int32) (res : Bool) (hM : mX4_isPaper s_t v1 = some res) : Rd l yX4_isPaper cX4_isPaper 2 (some .boolean) 1 25 (dC, dI) cI cC cZ [(a_t, .inr (4, [.ref a_t_text, .int s_t.1, .int s_t.2.1, .ref a_t_paper, .ref a_t_now, .ref a_t_trial, .ref a_t_diary, .int s_t.2.2.1, .int s_t.2.2.2.1, .ref a_t_kept, .ref a_t_isKept, .ref a_t_seenAt, .int s_t.2.2.2.2.1, .long s_t.2.2.2.2.2.2.2.2.2, .ref a_t_worth, .int s_t.2.2.2.2.2.1, .int s_t.2.2.2.2.2.2.1, .ref a_t_readPaper, .ref a_t_read, .int s_t.2.2.2.2.2.2.2.1, .int s_t.2.2.2.2.2.2.2.2.1]))] [.ref a_t, .int v1] (some (.int (b2i res))) := by
  refine Rd.ofZ (by decide) (Nat.le_of_ble_eq_true rfl) [(0, .ref a_t), (1, .int v1)] rfl ?_
  intro p e s m args below meth c ls Q hx hb hml hown hU hE hP rt hl
  have hown : s.vm.findClass RX4 = some m.cls := hown
  unfold mX4_isPaper at hM
  refine lv_iload_n hx hb dX4_isPaper_0 rfl (lv_at hl 1 rfl) ?_
  refine lv_i2l (v := (v1.toInt64)) hx hb dX4_isPaper_1 rfl ?_
  refine lv_lconst (v := (0 : Int64)) hx hb dX4_isPaper_2 (by decide) ?_
  refine lv_aload_n hx hb dX4_isPaper_3 rfl (lv_at hl 0 rfl) ?_
  refine va_get (D := (dC, dI)) (ci := 4) (v := .int s_t.2.1) (C := RX4) (T := TX4) (N := 21) hx hb hU inlX4 hown hE.1 hP 0 rfl rfl 2 (by decide) (hU _ u_5_1) (fun _ h9 => h9) rfl dX4_isPaper_4 ?_
  refine lv_iconst (v := (1 : Int32)) hx hb dX4_isPaper_7 (by decide) ?_
  refine lv_isub hx hb dX4_isPaper_8 ?_
  refine lv_i2l (v := ((s_t.2.1 - (1 : Int32)).toInt64)) hx hb dX4_isPaper_9 rfl ?_
  obtain ⟨x10, h10, hM⟩ := bind_e hM
  refine rdS (As := [.long (v1.toInt64), .long (0 : Int64), .long ((s_t.2.1 - (1 : Int32)).toInt64)]) (rest := []) (st2 := [.int (b2i x10)]) ⟨hx, hb, hml, hown, hU⟩ hE (okX4_in (v1.toInt64) (0 : Int64) ((s_t.2.1 - (1 : Int32)).toInt64) x10 h10) lk_X4_50 (hP.sub [] rfl) rfl hl.1 rfl (Nat.le_of_ble_eq_true rfl) ⟨Nat.le_of_ble_eq_true rfl, Nat.le_of_ble_eq_true rfl⟩ dX4_isPaper_10 ⟨Nat.le_refl _, Nat.le_refl _⟩ rfl ?_
  cases hM
  exact rt _ _ _ dX4_isPaper_13 rfl
noncomputable def mX4_isRange (v0 : Int32) (v1 : Int32) : Option (Bool) := (mX4_in (v1.toInt64) (0 : Int64) (5 : Int64)).bind (fun x6 => (if x6 = true then (mX4_in (v0.toInt64) (0 : Int64) (31 : Int64)).bind (fun x18 => (if x18 = true then (mX4_sizeOf v1).bind (fun x26 => rmd v0 x26 (fun x29 => (if x29 = 0 then some (true) else some (false)))) else some (false))) else some (false)))
set_option maxHeartbeats 4000000 in
set_option maxRecDepth 100000 in
theorem okX4_isRange {l : Launch} {dC : Nat → ClassId} {dI : Nat → Nat → Nat} {cI cC cZ : ClassId} (v0 : Int32) (v1 : Int32) (res : Bool) (hM : mX4_isRange v0 v1 = some res) : Rd l yX4_isRange cX4_isRange 2 (some .boolean) 1 25 (dC, dI) cI cC cZ [] [.int v0, .int v1] (some (.int (b2i res))) := by
  refine Rd.ofZ (by decide) (Nat.le_of_ble_eq_true rfl) [(0, .int v0), (1, .int v1)] rfl ?_
  intro p e s m args below meth c ls Q hx hb hml hown hU hE hP rt hl
  have hown : s.vm.findClass RX4 = some m.cls := hown
  unfold mX4_isRange at hM
  refine lv_iload_n hx hb dX4_isRange_0 rfl (lv_at hl 1 rfl) ?_
  refine lv_i2l (v := (v1.toInt64)) hx hb dX4_isRange_1 rfl ?_
  refine lv_lconst (v := (0 : Int64)) hx hb dX4_isRange_2 (by decide) ?_
  refine lv_ldc2 hx hb hown (hU _ u_9_14) dX4_isRange_3 ?_
  obtain ⟨x6, h6, hM⟩ := bind_e hM
  refine rdS (As := [.long (v1.toInt64), .long (0 : Int64), .long (5 : Int64)]) (rest := []) (st2 := [.int (b2i x6)]) ⟨hx, hb, hml, hown, hU⟩ hE (okX4_in (v1.toInt64) (0 : Int64) (5 : Int64) x6 h6) lk_X4_50 (hP.sub [] rfl) rfl hl.1 rfl (Nat.le_of_ble_eq_true rfl) ⟨Nat.le_of_ble_eq_true rfl, Nat.le_of_ble_eq_true rfl⟩ dX4_isRange_6 ⟨Nat.le_refl _, Nat.le_refl _⟩ rfl ?_
  refine lv_if_eq (tgt := 37) hx hb dX4_isRange_9 (by decide) (fun c9 => ?_) (fun c9 => ?_)
  · have hM := ite_f (b2i_eq0 c9) hM
    refine lv_iconst (v := (0 : Int32)) hx hb dX4_isRange_37 (by decide) ?_
    cases hM
    exact rt false _ _ dX4_isRange_38 rfl
  · have hM := ite_t (b2i_ne0 c9) hM
    refine lv_iload_n hx hb dX4_isRange_12 rfl (lv_at hl 0 rfl) ?_
    refine lv_i2l (v := (v0.toInt64)) hx hb dX4_isRange_13 rfl ?_
    refine lv_lconst (v := (0 : Int64)) hx hb dX4_isRange_14 (by decide) ?_
    refine lv_ldc2 hx hb hown (hU _ u_9_15) dX4_isRange_15 ?_
    obtain ⟨x18, h18, hM⟩ := bind_e hM
    refine rdS (As := [.long (v0.toInt64), .long (0 : Int64), .long (31 : Int64)]) (rest := []) (st2 := [.int (b2i x18)]) ⟨hx, hb, hml, hown, hU⟩ hE (okX4_in (v0.toInt64) (0 : Int64) (31 : Int64) x18 h18) lk_X4_50 (hP.sub [] rfl) rfl hl.1 rfl (Nat.le_of_ble_eq_true rfl) ⟨Nat.le_of_ble_eq_true rfl, Nat.le_of_ble_eq_true rfl⟩ dX4_isRange_18 ⟨Nat.le_refl _, Nat.le_refl _⟩ rfl ?_
    refine lv_if_eq (tgt := 37) hx hb dX4_isRange_21 (by decide) (fun c21 => ?_) (fun c21 => ?_)
    · have hM := ite_f (b2i_eq0 c21) hM
      refine lv_iconst (v := (0 : Int32)) hx hb dX4_isRange_37 (by decide) ?_
      cases hM
      exact rt false _ _ dX4_isRange_38 rfl
    · have hM := ite_t (b2i_ne0 c21) hM
      refine lv_iload_n hx hb dX4_isRange_24 rfl (lv_at hl 0 rfl) ?_
      refine lv_iload_n hx hb dX4_isRange_25 rfl (lv_at hl 1 rfl) ?_
      obtain ⟨x26, h26, hM⟩ := bind_e hM
      refine rdS (As := [.int v1]) (rest := [.int v0]) (st2 := [.int x26, .int v0]) ⟨hx, hb, hml, hown, hU⟩ hE (okX4_sizeOf v1 x26 h26) lk_X4_56 (hP.sub [] rfl) rfl hl.1 rfl (Nat.le_of_ble_eq_true rfl) ⟨Nat.le_of_ble_eq_true rfl, Nat.le_of_ble_eq_true rfl⟩ dX4_isRange_26 ⟨Nat.le_refl _, Nat.le_refl _⟩ rfl ?_
      obtain ⟨g29, hM⟩ := rmd_e hM
      refine lv_irem hx hb dX4_isRange_29 g29 ?_
      refine lv_if_ne (tgt := 37) hx hb dX4_isRange_30 (by decide) (fun c30 => ?_) (fun c30 => ?_)
      · have hM := ite_f c30 hM
        refine lv_iconst (v := (0 : Int32)) hx hb dX4_isRange_37 (by decide) ?_
        cases hM
        exact rt false _ _ dX4_isRange_38 rfl
      · have hM := ite_t c30 hM
        refine lv_iconst (v := (1 : Int32)) hx hb dX4_isRange_33 (by decide) ?_
        refine lv_goto (tgt := 38) hx hb dX4_isRange_34 (by decide) ?_
        cases hM
        exact rt true _ _ dX4_isRange_38 rfl
