noncomputable def mJ6_bitCount_0f7a4 (v0 : Int32) : Option (Int32) := bnd (v0 - (((v0.toUInt32 >>> ((1 : Int32).toUInt32 &&& Int32.toUInt32 31)).toInt32) &&& (1431655765 : Int32))) (fun z9 => bnd ((z9 &&& (858993459 : Int32)) + (((z9.toUInt32 >>> ((2 : Int32).toUInt32 &&& Int32.toUInt32 31)).toInt32) &&& (858993459 : Int32))) (fun z23 => bnd ((z23 + ((z23.toUInt32 >>> ((4 : Int32).toUInt32 &&& Int32.toUInt32 31)).toInt32)) &&& (252645135 : Int32)) (fun z33 => bnd (z33 + ((z33.toUInt32 >>> ((8 : Int32).toUInt32 &&& Int32.toUInt32 31)).toInt32)) (fun z40 => bnd (z40 + ((z40.toUInt32 >>> ((16 : Int32).toUInt32 &&& Int32.toUInt32 31)).toInt32)) (fun z47 => some ((z47 &&& (63 : Int32))))))))
set_option maxHeartbeats 4000000 in
set_option maxRecDepth 100000 in
theorem okJ6_bitCount_0f7a4 {l : Launch} {dC : Nat → ClassId} {dI : Nat → Nat → Nat} {cI cC cZ : ClassId} (v0 : Int32) (res : Int32) (hM : mJ6_bitCount_0f7a4 v0 = some res) : Rd l yJ6_bitCount_0f7a4 cJ6_bitCount_0f7a4 1 (some .int) 0 0 (dC, dI) cI cC cZ [] [.int v0] (some (.int res)) := by
  refine Rd.ofI (by decide) (Nat.le_of_ble_eq_true rfl) [(0, .int v0)] rfl ?_
  intro p e s m args below meth c ls Q hx hb hml hown hU hE hP rt hl
  have hown : s.vm.findClass RJ6 = some m.cls := hown
  unfold mJ6_bitCount_0f7a4 at hM
  refine lv_iload_n hx hb dJ6_bitCount_0f7a4_0 rfl (lv_at hl 0 rfl) ?_
  refine lv_iload_n hx hb dJ6_bitCount_0f7a4_1 rfl (lv_at hl 0 rfl) ?_
  refine lv_iconst (v := (1 : Int32)) hx hb dJ6_bitCount_0f7a4_2 (by decide) ?_
  refine lv_iushr (v := (v0.toUInt32 >>> ((1 : Int32).toUInt32 &&& Int32.toUInt32 31)).toInt32) hx hb dJ6_bitCount_0f7a4_3 rfl ?_
  refine lv_ldcw hx hb hown (hU _ u_13_14) dJ6_bitCount_0f7a4_4 ?_
  refine lv_iand hx hb dJ6_bitCount_0f7a4_7 ?_
  refine lv_isub hx hb dJ6_bitCount_0f7a4_8 ?_
  obtain ⟨z9, ez9, hM⟩ := bnd_e hM
  rw [← ez9]
  refine lv_istore_n (lv' := [(0, .int z9)]) hx hb dJ6_bitCount_0f7a4_9 rfl hl (by decide) rfl (fun ls hl => ?_)
  refine lv_iload_n hx hb dJ6_bitCount_0f7a4_10 rfl (lv_at hl 0 rfl) ?_
  refine lv_ldcw hx hb hown (hU _ u_13_15) dJ6_bitCount_0f7a4_11 ?_
  refine lv_iand hx hb dJ6_bitCount_0f7a4_14 ?_
  refine lv_iload_n hx hb dJ6_bitCount_0f7a4_15 rfl (lv_at hl 0 rfl) ?_
  refine lv_iconst (v := (2 : Int32)) hx hb dJ6_bitCount_0f7a4_16 (by decide) ?_
  refine lv_iushr (v := (z9.toUInt32 >>> ((2 : Int32).toUInt32 &&& Int32.toUInt32 31)).toInt32) hx hb dJ6_bitCount_0f7a4_17 rfl ?_
  refine lv_ldcw hx hb hown (hU _ u_13_15) dJ6_bitCount_0f7a4_18 ?_
  refine lv_iand hx hb dJ6_bitCount_0f7a4_21 ?_
  refine lv_iadd hx hb dJ6_bitCount_0f7a4_22 ?_
  obtain ⟨z23, ez23, hM⟩ := bnd_e hM
  rw [← ez23]
  refine lv_istore_n (lv' := [(0, .int z23)]) hx hb dJ6_bitCount_0f7a4_23 rfl hl (by decide) rfl (fun ls hl => ?_)
  refine lv_iload_n hx hb dJ6_bitCount_0f7a4_24 rfl (lv_at hl 0 rfl) ?_
  refine lv_iload_n hx hb dJ6_bitCount_0f7a4_25 rfl (lv_at hl 0 rfl) ?_
  refine lv_iconst (v := (4 : Int32)) hx hb dJ6_bitCount_0f7a4_26 (by decide) ?_
  refine lv_iushr (v := (z23.toUInt32 >>> ((4 : Int32).toUInt32 &&& Int32.toUInt32 31)).toInt32) hx hb dJ6_bitCount_0f7a4_27 rfl ?_
  refine lv_iadd hx hb dJ6_bitCount_0f7a4_28 ?_
  refine lv_ldcw hx hb hown (hU _ u_13_16) dJ6_bitCount_0f7a4_29 ?_
  refine lv_iand hx hb dJ6_bitCount_0f7a4_32 ?_
  obtain ⟨z33, ez33, hM⟩ := bnd_e hM
  rw [← ez33]
  refine lv_istore_n (lv' := [(0, .int z33)]) hx hb dJ6_bitCount_0f7a4_33 rfl hl (by decide) rfl (fun ls hl => ?_)
  refine lv_iload_n hx hb dJ6_bitCount_0f7a4_34 rfl (lv_at hl 0 rfl) ?_
  refine lv_iload_n hx hb dJ6_bitCount_0f7a4_35 rfl (lv_at hl 0 rfl) ?_
  refine lv_bipush (v := (8 : Int32)) hx hb dJ6_bitCount_0f7a4_36 (by decide) ?_
  refine lv_iushr (v := (z33.toUInt32 >>> ((8 : Int32).toUInt32 &&& Int32.toUInt32 31)).toInt32) hx hb dJ6_bitCount_0f7a4_38 rfl ?_
  refine lv_iadd hx hb dJ6_bitCount_0f7a4_39 ?_
  obtain ⟨z40, ez40, hM⟩ := bnd_e hM
  rw [← ez40]
  refine lv_istore_n (lv' := [(0, .int z40)]) hx hb dJ6_bitCount_0f7a4_40 rfl hl (by decide) rfl (fun ls hl => ?_)
  refine lv_iload_n hx hb dJ6_bitCount_0f7a4_41 rfl (lv_at hl 0 rfl) ?_
  refine lv_iload_n hx hb dJ6_bitCount_0f7a4_42 rfl (lv_at hl 0 rfl) ?_
  refine lv_bipush (v := (16 : Int32)) hx hb dJ6_bitCount_0f7a4_43 (by decide) ?_
  refine lv_iushr (v := (z40.toUInt32 >>> ((16 : Int32).toUInt32 &&& Int32.toUInt32 31)).toInt32) hx hb dJ6_bitCount_0f7a4_45 rfl ?_
  refine lv_iadd hx hb dJ6_bitCount_0f7a4_46 ?_
  obtain ⟨z47, ez47, hM⟩ := bnd_e hM
  rw [← ez47]
  refine lv_istore_n (lv' := [(0, .int z47)]) hx hb dJ6_bitCount_0f7a4_47 rfl hl (by decide) rfl (fun ls hl => ?_)
  refine lv_iload_n hx hb dJ6_bitCount_0f7a4_48 rfl (lv_at hl 0 rfl) ?_
  refine lv_bipush (v := (63 : Int32)) hx hb dJ6_bitCount_0f7a4_49 (by decide) ?_
  refine lv_iand hx hb dJ6_bitCount_0f7a4_51 ?_
  cases hM
  exact rt _ _ _ dJ6_bitCount_0f7a4_52 rfl
noncomputable def mX3_bit (v0 : Int32) (v1 : Int32) : Option (Int32) := some (((v0 >>> (v1 &&& 31)) &&& (1 : Int32)))
set_option maxHeartbeats 4000000 in
set_option maxRecDepth 100000 in
theorem okX3_bit {l : Launch} {dC : Nat → ClassId} {dI : Nat → Nat → Nat} {cI cC cZ : ClassId} (v0 : Int32) (v1 : Int32) (res : Int32) (hM : mX3_bit v0 v1 = some res) : Rd l yX3_bit cX3_bit 2 (some .int) 0 0 (dC, dI) cI cC cZ [] [.int v0, .int v1] (some (.int res)) := by
  refine Rd.ofI (by decide) (Nat.le_of_ble_eq_true rfl) [(0, .int v0), (1, .int v1)] rfl ?_
  intro p e s m args below meth c ls Q hx hb hml hown hU hE hP rt hl
  have hown : s.vm.findClass RX3 = some m.cls := hown
  unfold mX3_bit at hM
  refine lv_iload_n hx hb dX3_bit_0 rfl (lv_at hl 0 rfl) ?_
  refine lv_iload_n hx hb dX3_bit_1 rfl (lv_at hl 1 rfl) ?_
  refine lv_ishr hx hb dX3_bit_2 ?_
  refine lv_iconst (v := (1 : Int32)) hx hb dX3_bit_3 (by decide) ?_
  refine lv_iand hx hb dX3_bit_4 ?_
  cases hM
  exact rt _ _ _ dX3_bit_5 rfl
noncomputable def mX1_openAt (s_t : Int32 × Int32 × Int32) (s_t_cells : Ar) (v1 : Int32) : Option ((Int32 × Int32 × Int32) × Ar) := (if v1 < 0 then some (s_t, s_t_cells) else (if s_t.2.2 < v1 then some (s_t, s_t_cells) else (if s_t.2.2 < s_t.1 then acp s_t_cells.2 s_t_cells.1 (v1 * s_t.2.1) s_t_cells.2 s_t_cells.1 ((v1 + (1 : Int32)) * s_t.2.1) ((s_t.2.2 - v1) * s_t.2.1) (fun x57 => some ((s_t.1, s_t.2.1, (s_t.2.2 + (1 : Int32))), (s_t_cells.1, x57))) else some (s_t, s_t_cells))))
set_option maxHeartbeats 4000000 in
set_option maxRecDepth 100000 in
theorem okX1_openAt {l : Launch} {dC : Nat → ClassId} {dI : Nat → Nat → Nat} {cI cC cZ : ClassId} (a_t a_t_cells : Nat) (s_t : Int32 × Int32 × Int32) (s_t_cells : Ar) (v1 : Int32) (res : (Int32 × Int32 × Int32) × Ar) (hM : mX1_openAt s_t s_t_cells v1 = some res) : Mu l yX1_openAt cX1_openAt 2 none 1 40 (dC, dI) cI cC cZ [(a_t, .inr (1, [.int s_t.1, .int s_t.2.1, .ref a_t_cells, .int s_t.2.2])), (a_t_cells, .inl (cI, s_t_cells.1, .inl s_t_cells.2))] [(a_t, .inr (1, [.int res.1.1, .int res.1.2.1, .ref a_t_cells, .int res.1.2.2])), (a_t_cells, .inl (cI, res.2.1, .inl res.2.2))] [.ref a_t, .int v1] none := by
  refine Mu.ofV (by decide) (Nat.le_of_ble_eq_true rfl) [(0, .ref a_t), (1, .int v1)] rfl ?_
  intro p e s m args below meth c ls Q A hx hb hml hown hU hE hP hD hS hA rt hl
  have hown : s.vm.findClass RX1 = some m.cls := hown
  unfold mX1_openAt at hM
  refine lv_iload_n hx hb dX1_openAt_0 rfl (lv_at hl 1 rfl) ?_
  refine lv_if_lt (tgt := 23) hx hb dX1_openAt_1 (by decide) (fun c1 => ?_) (fun c1 => ?_)
  · have hM := ite_t c1 hM
    cases hM
    exact rt _ _ _ _ hP hS dX1_openAt_23 rfl
  · have hM := ite_f c1 hM
    refine lv_iload_n hx hb dX1_openAt_4 rfl (lv_at hl 1 rfl) ?_
    refine lv_aload_n hx hb dX1_openAt_5 rfl (lv_at hl 0 rfl) ?_
    refine va_get (D := (dC, dI)) (ci := 1) (v := .int s_t.2.2) (C := RX1) (T := TX1) (N := 4) hx hb hU inlX1 hown hE.1 hP 0 rfl rfl 3 (by decide) (hU _ u_3_18) (fun _ h9 => h9) rfl dX1_openAt_6 ?_
    refine lv_icmp_gt (tgt := 23) hx hb dX1_openAt_9 (by decide) (fun c9 => ?_) (fun c9 => ?_)
    · have hM := ite_t c9 hM
      cases hM
      exact rt _ _ _ _ hP hS dX1_openAt_23 rfl
    · have hM := ite_f c9 hM
      refine lv_aload_n hx hb dX1_openAt_12 rfl (lv_at hl 0 rfl) ?_
      refine va_get (D := (dC, dI)) (ci := 1) (v := .int s_t.2.2) (C := RX1) (T := TX1) (N := 4) hx hb hU inlX1 hown hE.1 hP 0 rfl rfl 3 (by decide) (hU _ u_3_18) (fun _ h9 => h9) rfl dX1_openAt_13 ?_
      refine lv_aload_n hx hb dX1_openAt_16 rfl (lv_at hl 0 rfl) ?_
      refine va_get (D := (dC, dI)) (ci := 1) (v := .int s_t.1) (C := RX1) (T := TX1) (N := 4) hx hb hU inlX1 hown hE.1 hP 0 rfl rfl 0 (by decide) (hU _ u_2_16) (fun _ h9 => h9) rfl dX1_openAt_17 ?_
      refine lv_icmp_lt (tgt := 24) hx hb dX1_openAt_20 (by decide) (fun c20 => ?_) (fun c20 => ?_)
      · have hM := ite_t c20 hM
        refine lv_aload_n hx hb dX1_openAt_24 rfl (lv_at hl 0 rfl) ?_
        refine va_get (D := (dC, dI)) (ci := 1) (v := .ref a_t_cells) (C := RX1) (T := TX1) (N := 4) hx hb hU inlX1 hown hE.1 hP 0 rfl rfl 2 (by decide) (hU _ u_2_18) (fun _ h9 => h9) rfl dX1_openAt_25 ?_
        refine lv_iload_n hx hb dX1_openAt_28 rfl (lv_at hl 1 rfl) ?_
        refine lv_aload_n hx hb dX1_openAt_29 rfl (lv_at hl 0 rfl) ?_
        refine va_get (D := (dC, dI)) (ci := 1) (v := .int s_t.2.1) (C := RX1) (T := TX1) (N := 4) hx hb hU inlX1 hown hE.1 hP 0 rfl rfl 1 (by decide) (hU _ u_2_17) (fun _ h9 => h9) rfl dX1_openAt_30 ?_
        refine lv_imul hx hb dX1_openAt_33 ?_
        refine lv_aload_n hx hb dX1_openAt_34 rfl (lv_at hl 0 rfl) ?_
        refine va_get (D := (dC, dI)) (ci := 1) (v := .ref a_t_cells) (C := RX1) (T := TX1) (N := 4) hx hb hU inlX1 hown hE.1 hP 0 rfl rfl 2 (by decide) (hU _ u_2_18) (fun _ h9 => h9) rfl dX1_openAt_35 ?_
        refine lv_iload_n hx hb dX1_openAt_38 rfl (lv_at hl 1 rfl) ?_
        refine lv_iconst (v := (1 : Int32)) hx hb dX1_openAt_39 (by decide) ?_
        refine lv_iadd hx hb dX1_openAt_40 ?_
        refine lv_aload_n hx hb dX1_openAt_41 rfl (lv_at hl 0 rfl) ?_
        refine va_get (D := (dC, dI)) (ci := 1) (v := .int s_t.2.1) (C := RX1) (T := TX1) (N := 4) hx hb hU inlX1 hown hE.1 hP 0 rfl rfl 1 (by decide) (hU _ u_2_17) (fun _ h9 => h9) rfl dX1_openAt_42 ?_
        refine lv_imul hx hb dX1_openAt_45 ?_
        refine lv_aload_n hx hb dX1_openAt_46 rfl (lv_at hl 0 rfl) ?_
        refine va_get (D := (dC, dI)) (ci := 1) (v := .int s_t.2.2) (C := RX1) (T := TX1) (N := 4) hx hb hU inlX1 hown hE.1 hP 0 rfl rfl 3 (by decide) (hU _ u_3_18) (fun _ h9 => h9) rfl dX1_openAt_47 ?_
        refine lv_iload_n hx hb dX1_openAt_50 rfl (lv_at hl 1 rfl) ?_
        refine lv_isub hx hb dX1_openAt_51 ?_
        refine lv_aload_n hx hb dX1_openAt_52 rfl (lv_at hl 0 rfl) ?_
        refine va_get (D := (dC, dI)) (ci := 1) (v := .int s_t.2.1) (C := RX1) (T := TX1) (N := 4) hx hb hU inlX1 hown hE.1 hP 0 rfl rfl 1 (by decide) (hU _ u_2_17) (fun _ h9 => h9) rfl dX1_openAt_53 ?_
        refine lv_imul hx hb dX1_openAt_56 ?_
        obtain ⟨g57, hM⟩ := acp_e hM
        refine va_copyi hx hb (hml.trans hl.1.symm) hown (hU _ u_3_23) (hU _ u_4_0) (hU _ u_4_1) (hU _ u_4_2) hE.1 hP hD hS 1 1 0 0 rfl rfl rfl rfl rfl g57.1 g57.2.1 g57.2.2.1 g57.2.2.2.1 g57.2.2.2.2 (fun _ _ => rfl) (Nat.le_of_ble_eq_true rfl) (Nat.le_of_ble_eq_true rfl) dX1_openAt_57 (fun H locs hP hD hS => ?_)
        have hP : va_P (dC, dI) vwCl [(a_t, .inr (1, [.int s_t.1, .int s_t.2.1, .ref a_t_cells, .int s_t.2.2])), (a_t_cells, .inl (cI, s_t_cells.1, .inl (va_cpy s_t_cells.2 s_t_cells.2 (v1 * s_t.2.1).toNatClampNeg ((v1 + (1 : Int32)) * s_t.2.1).toNatClampNeg ((s_t.2.2 - v1) * s_t.2.1).toNatClampNeg)))] H := hP
        have hD : va_D A [(a_t, .inr (1, [.int s_t.1, .int s_t.2.1, .ref a_t_cells, .int s_t.2.2])), (a_t_cells, .inl (cI, s_t_cells.1, .inl (va_cpy s_t_cells.2 s_t_cells.2 (v1 * s_t.2.1).toNatClampNeg ((v1 + (1 : Int32)) * s_t.2.1).toNatClampNeg ((s_t.2.2 - v1) * s_t.2.1).toNatClampNeg)))] := hD
        refine lv_aload_n hx hb dX1_openAt_60 rfl (lv_at hl 0 rfl) ?_
        refine lv_dup hx hb dX1_openAt_61 rfl ?_
        refine va_get (D := (dC, dI)) (ci := 1) (v := .int s_t.2.2) (C := RX1) (T := TX1) (N := 4) hx hb hU inlX1 hown hE.1 hP 0 rfl rfl 3 (by decide) (hU _ u_3_18) (fun _ h9 => h9) rfl dX1_openAt_62 ?_
        refine lv_iconst (v := (1 : Int32)) hx hb dX1_openAt_65 (by decide) ?_
        refine lv_iadd hx hb dX1_openAt_66 ?_
        refine va_put (D := (dC, dI)) (ci := 1) (v := .int (s_t.2.2 + (1 : Int32))) (ty := .int) (C := RX1) (T := TX1) (N := 4) hx hb hU inlX1 tyX1 tyX1_ok nmX1 hown hE.1 hP hD hS 0 rfl rfl 3 (by decide) (hU _ u_3_18) (fun _ h9 => h9) rfl (tyX1_ok 3 (by decide)) rfl rfl (Nat.le_of_ble_eq_true rfl) dX1_openAt_67 (fun H locs hP hD hS => ?_)
        have hP : va_P (dC, dI) vwCl [(a_t, .inr (1, [.int s_t.1, .int s_t.2.1, .ref a_t_cells, .int (s_t.2.2 + (1 : Int32))])), (a_t_cells, .inl (cI, s_t_cells.1, .inl (va_cpy s_t_cells.2 s_t_cells.2 (v1 * s_t.2.1).toNatClampNeg ((v1 + (1 : Int32)) * s_t.2.1).toNatClampNeg ((s_t.2.2 - v1) * s_t.2.1).toNatClampNeg)))] H := hP
        have hD : va_D A [(a_t, .inr (1, [.int s_t.1, .int s_t.2.1, .ref a_t_cells, .int (s_t.2.2 + (1 : Int32))])), (a_t_cells, .inl (cI, s_t_cells.1, .inl (va_cpy s_t_cells.2 s_t_cells.2 (v1 * s_t.2.1).toNatClampNeg ((v1 + (1 : Int32)) * s_t.2.1).toNatClampNeg ((s_t.2.2 - v1) * s_t.2.1).toNatClampNeg)))] := hD
        cases hM
        exact rt _ _ _ _ hP hS dX1_openAt_70 rfl
      · have hM := ite_f c20 hM
        cases hM
        exact rt _ _ _ _ hP hS dX1_openAt_23 rfl
noncomputable def mX1_put (s_t : Int32 × Int32 × Int32) (s_t_cells : Ar) (v1 : Int32) (v2 : Int32) (v3 : Int32) : Option (Ar) := (if v1 < 0 then some (s_t_cells) else (if s_t.2.2 ≤ v1 then some (s_t_cells) else (if v2 < 0 then some (s_t_cells) else (if s_t.2.1 ≤ v2 then some (s_t_cells) else wr s_t_cells.2 s_t_cells.1 ((v1 * s_t.2.1) + v2) v3 (fun x37 => some ((s_t_cells.1, x37)))))))
set_option maxHeartbeats 4000000 in
set_option maxRecDepth 100000 in
theorem okX1_put {l : Launch} {dC : Nat → ClassId} {dI : Nat → Nat → Nat} {cI cC cZ : ClassId} (a_t a_t_cells : Nat) (s_t : Int32 × Int32 × Int32) (s_t_cells : Ar) (v1 : Int32) (v2 : Int32) (v3 : Int32) (res : Ar) (hM : mX1_put s_t s_t_cells v1 v2 v3 = some res) : Mu l yX1_put cX1_put 4 none 0 0 (dC, dI) cI cC cZ [(a_t, .inr (1, [.int s_t.1, .int s_t.2.1, .ref a_t_cells, .int s_t.2.2])), (a_t_cells, .inl (cI, s_t_cells.1, .inl s_t_cells.2))] [(a_t, .inr (1, [.int s_t.1, .int s_t.2.1, .ref a_t_cells, .int s_t.2.2])), (a_t_cells, .inl (cI, res.1, .inl res.2))] [.ref a_t, .int v1, .int v2, .int v3] none := by
  refine Mu.ofV (by decide) (Nat.le_of_ble_eq_true rfl) [(0, .ref a_t), (1, .int v1), (2, .int v2), (3, .int v3)] rfl ?_
  intro p e s m args below meth c ls Q A hx hb hml hown hU hE hP hD hS hA rt hl
  have hown : s.vm.findClass RX1 = some m.cls := hown
  unfold mX1_put at hM
  refine lv_iload_n hx hb dX1_put_0 rfl (lv_at hl 1 rfl) ?_
  refine lv_if_lt (tgt := 38) hx hb dX1_put_1 (by decide) (fun c1 => ?_) (fun c1 => ?_)
  · have hM := ite_t c1 hM
    cases hM
    exact rt _ _ _ _ hP hS dX1_put_38 rfl
  · have hM := ite_f c1 hM
    refine lv_iload_n hx hb dX1_put_4 rfl (lv_at hl 1 rfl) ?_
    refine lv_aload_n hx hb dX1_put_5 rfl (lv_at hl 0 rfl) ?_
    refine va_get (D := (dC, dI)) (ci := 1) (v := .int s_t.2.2) (C := RX1) (T := TX1) (N := 4) hx hb hU inlX1 hown hE.1 hP 0 rfl rfl 3 (by decide) (hU _ u_3_18) (fun _ h9 => h9) rfl dX1_put_6 ?_
    refine lv_icmp_ge (tgt := 38) hx hb dX1_put_9 (by decide) (fun c9 => ?_) (fun c9 => ?_)
    · have hM := ite_t c9 hM
      cases hM
      exact rt _ _ _ _ hP hS dX1_put_38 rfl
    · have hM := ite_f c9 hM
      refine lv_iload_n hx hb dX1_put_12 rfl (lv_at hl 2 rfl) ?_
      refine lv_if_lt (tgt := 38) hx hb dX1_put_13 (by decide) (fun c13 => ?_) (fun c13 => ?_)
      · have hM := ite_t c13 hM
        cases hM
        exact rt _ _ _ _ hP hS dX1_put_38 rfl
      · have hM := ite_f c13 hM
        refine lv_iload_n hx hb dX1_put_16 rfl (lv_at hl 2 rfl) ?_
        refine lv_aload_n hx hb dX1_put_17 rfl (lv_at hl 0 rfl) ?_
        refine va_get (D := (dC, dI)) (ci := 1) (v := .int s_t.2.1) (C := RX1) (T := TX1) (N := 4) hx hb hU inlX1 hown hE.1 hP 0 rfl rfl 1 (by decide) (hU _ u_2_17) (fun _ h9 => h9) rfl dX1_put_18 ?_
        refine lv_icmp_ge (tgt := 38) hx hb dX1_put_21 (by decide) (fun c21 => ?_) (fun c21 => ?_)
        · have hM := ite_t c21 hM
          cases hM
          exact rt _ _ _ _ hP hS dX1_put_38 rfl
        · have hM := ite_f c21 hM
          refine lv_aload_n hx hb dX1_put_24 rfl (lv_at hl 0 rfl) ?_
          refine va_get (D := (dC, dI)) (ci := 1) (v := .ref a_t_cells) (C := RX1) (T := TX1) (N := 4) hx hb hU inlX1 hown hE.1 hP 0 rfl rfl 2 (by decide) (hU _ u_2_18) (fun _ h9 => h9) rfl dX1_put_25 ?_
          refine lv_iload_n hx hb dX1_put_28 rfl (lv_at hl 1 rfl) ?_
          refine lv_aload_n hx hb dX1_put_29 rfl (lv_at hl 0 rfl) ?_
          refine va_get (D := (dC, dI)) (ci := 1) (v := .int s_t.2.1) (C := RX1) (T := TX1) (N := 4) hx hb hU inlX1 hown hE.1 hP 0 rfl rfl 1 (by decide) (hU _ u_2_17) (fun _ h9 => h9) rfl dX1_put_30 ?_
          refine lv_imul hx hb dX1_put_33 ?_
          refine lv_iload_n hx hb dX1_put_34 rfl (lv_at hl 2 rfl) ?_
          refine lv_iadd hx hb dX1_put_35 ?_
          refine lv_iload_n hx hb dX1_put_36 rfl (lv_at hl 3 rfl) ?_
          obtain ⟨g37, hM⟩ := wr_e hM
          refine va_iast hx hb hE.1 hP hD hS 1 0 rfl rfl g37 dX1_put_37 (fun H locs hP hD hS => ?_)
          have hP : va_P (dC, dI) vwCl [(a_t, .inr (1, [.int s_t.1, .int s_t.2.1, .ref a_t_cells, .int s_t.2.2])), (a_t_cells, .inl (cI, s_t_cells.1, .inl (upd s_t_cells.2 ((v1 * s_t.2.1) + v2).toNatClampNeg v3)))] H := hP
          have hD : va_D A [(a_t, .inr (1, [.int s_t.1, .int s_t.2.1, .ref a_t_cells, .int s_t.2.2])), (a_t_cells, .inl (cI, s_t_cells.1, .inl (upd s_t_cells.2 ((v1 * s_t.2.1) + v2).toNatClampNeg v3)))] := hD
          cases hM
          exact rt _ _ _ _ hP hS dX1_put_38 rfl
noncomputable def mX3_coverOf (v0 : Int32) (v1 : Int32) : Option (Int32) := (if v1 = 0 then some ((-1 : Int32)) else some (((((1 : Int32) <<< (((32 : Int32) >>> (v1 &&& 31)) &&& 31)) - (1 : Int32)) <<< (v0 &&& 31))))
set_option maxHeartbeats 4000000 in
set_option maxRecDepth 100000 in
theorem okX3_coverOf {l : Launch} {dC : Nat → ClassId} {dI : Nat → Nat → Nat} {cI cC cZ : ClassId} (v0 : Int32) (v1 : Int32) (res : Int32) (hM : mX3_coverOf v0 v1 = some res) : Rd l yX3_coverOf cX3_coverOf 2 (some .int) 0 0 (dC, dI) cI cC cZ [] [.int v0, .int v1] (some (.int res)) := by
  refine Rd.ofI (by decide) (Nat.le_of_ble_eq_true rfl) [(0, .int v0), (1, .int v1)] rfl ?_
  intro p e s m args below meth c ls Q hx hb hml hown hU hE hP rt hl
  have hown : s.vm.findClass RX3 = some m.cls := hown
  unfold mX3_coverOf at hM
  refine lv_iload_n hx hb dX3_coverOf_0 rfl (lv_at hl 1 rfl) ?_
  refine lv_if_ne (tgt := 8) hx hb dX3_coverOf_1 (by decide) (fun c1 => ?_) (fun c1 => ?_)
  · have hM := ite_f c1 hM
    refine lv_iconst (v := (1 : Int32)) hx hb dX3_coverOf_8 (by decide) ?_
    refine lv_bipush (v := (32 : Int32)) hx hb dX3_coverOf_9 (by decide) ?_
    refine lv_iload_n hx hb dX3_coverOf_11 rfl (lv_at hl 1 rfl) ?_
    refine lv_ishr hx hb dX3_coverOf_12 ?_
    refine lv_ishl hx hb dX3_coverOf_13 ?_
    refine lv_iconst (v := (1 : Int32)) hx hb dX3_coverOf_14 (by decide) ?_
    refine lv_isub hx hb dX3_coverOf_15 ?_
    refine lv_iload_n hx hb dX3_coverOf_16 rfl (lv_at hl 0 rfl) ?_
    refine lv_ishl hx hb dX3_coverOf_17 ?_
    cases hM
    exact rt _ _ _ dX3_coverOf_18 rfl
  · have hM := ite_t c1 hM
    refine lv_iconst (v := (-1 : Int32)) hx hb dX3_coverOf_4 (by decide) ?_
    refine lv_goto (tgt := 18) hx hb dX3_coverOf_5 (by decide) ?_
    cases hM
    exact rt _ _ _ dX3_coverOf_18 rfl
noncomputable def mX1_addRange (s_t : Int32 × Int32 × Int32) (s_t_cells : Ar) (v1 : Int32) (v2 : Int32) (v3 : Int32) (v4 : Int32) (v5 : Int32) : Option (Int32 × (Int32 × Int32 × Int32) × Ar) := (mX1_openAt s_t s_t_cells s_t.2.2).bind (fun x9 => (mX1_put x9.1 x9.2 s_t.2.2 (0 : Int32) v1).bind (fun x17 => (mX1_put x9.1 x17 s_t.2.2 (1 : Int32) v2).bind (fun x25 => (mX3_coverOf v1 v2).bind (fun x34 => (mX1_put x9.1 x25 s_t.2.2 (2 : Int32) x34).bind (fun x37 => (mX1_put x9.1 x37 s_t.2.2 (3 : Int32) v3).bind (fun x45 => (mX1_put x9.1 x45 s_t.2.2 (4 : Int32) v4).bind (fun x54 => (mX1_put x9.1 x54 s_t.2.2 (5 : Int32) v5).bind (fun x63 => some (s_t.2.2, x9.1, x63)))))))))
set_option maxHeartbeats 4000000 in
set_option maxRecDepth 100000 in
theorem okX1_addRange {l : Launch} {dC : Nat → ClassId} {dI : Nat → Nat → Nat} {cI cC cZ : ClassId} (a_t a_t_cells : Nat) (s_t : Int32 × Int32 × Int32) (s_t_cells : Ar) (v1 : Int32) (v2 : Int32) (v3 : Int32) (v4 : Int32) (v5 : Int32) (res : Int32 × (Int32 × Int32 × Int32) × Ar) (hM : mX1_addRange s_t s_t_cells v1 v2 v3 v4 v5 = some res) : Mu l yX1_addRange cX1_addRange 7 (some .int) 2 61 (dC, dI) cI cC cZ [(a_t, .inr (1, [.int s_t.1, .int s_t.2.1, .ref a_t_cells, .int s_t.2.2])), (a_t_cells, .inl (cI, s_t_cells.1, .inl s_t_cells.2))] [(a_t, .inr (1, [.int res.2.1.1, .int res.2.1.2.1, .ref a_t_cells, .int res.2.1.2.2])), (a_t_cells, .inl (cI, res.2.2.1, .inl res.2.2.2))] [.ref a_t, .int v1, .int v2, .int v3, .int v4, .int v5] (some (.int res.1)) := by
  refine Mu.ofI (by decide) (Nat.le_of_ble_eq_true rfl) [(0, .ref a_t), (1, .int v1), (2, .int v2), (3, .int v3), (4, .int v4), (5, .int v5)] rfl ?_
  intro p e s m args below meth c ls Q A hx hb hml hown hU hE hP hD hS hA rt hl
  have hown : s.vm.findClass RX1 = some m.cls := hown
  unfold mX1_addRange at hM
  refine lv_aload_n hx hb dX1_addRange_0 rfl (lv_at hl 0 rfl) ?_
  refine va_get (D := (dC, dI)) (ci := 1) (v := .int s_t.2.2) (C := RX1) (T := TX1) (N := 4) hx hb hU inlX1 hown hE.1 hP 0 rfl rfl 3 (by decide) (hU _ u_3_18) (fun _ h9 => h9) rfl dX1_addRange_1 ?_
  refine lv_istore (lv' := [(6, .int s_t.2.2), (0, .ref a_t), (1, .int v1), (2, .int v2), (3, .int v3), (4, .int v4), (5, .int v5)]) hx hb dX1_addRange_4 hl (by decide) rfl (fun ls hl => ?_)
  refine lv_aload_n hx hb dX1_addRange_6 rfl (lv_at hl 1 rfl) ?_
  refine lv_iload hx hb dX1_addRange_7 (lv_at hl 0 rfl) ?_
  obtain ⟨x9, h9, hM⟩ := bind_e hM
  refine muV (As := [.int s_t.2.2]) (rest := []) (st2 := []) (nw := [(a_t, .inr (1, [.int x9.1.1, .int x9.1.2.1, .ref a_t_cells, .int x9.1.2.2])), (a_t_cells, .inl (cI, x9.2.1, .inl x9.2.2))]) ⟨hx, hb, hml, hown, hU⟩ hE (okX1_openAt a_t a_t_cells s_t s_t_cells s_t.2.2 x9 h9) lk_X1_31 hP hD hS hA [0, 1] rfl rfl rfl rfl rfl rfl hl.1 rfl (Nat.le_of_ble_eq_true rfl) ⟨Nat.le_of_ble_eq_true rfl, Nat.le_of_ble_eq_true rfl⟩ dX1_addRange_9 ⟨Nat.le_refl _, Nat.le_refl _⟩ rfl rfl rfl rfl (fun H locs hP hD hS => ?_)
  refine lv_aload_n hx hb dX1_addRange_12 rfl (lv_at hl 1 rfl) ?_
  refine lv_iload hx hb dX1_addRange_13 (lv_at hl 0 rfl) ?_
  refine lv_iconst (v := (0 : Int32)) hx hb dX1_addRange_15 (by decide) ?_
  refine lv_iload_n hx hb dX1_addRange_16 rfl (lv_at hl 2 rfl) ?_
  obtain ⟨x17, h17, hM⟩ := bind_e hM
  refine muV (As := [.int s_t.2.2, .int (0 : Int32), .int v1]) (rest := []) (st2 := []) (nw := [(a_t, .inr (1, [.int x9.1.1, .int x9.1.2.1, .ref a_t_cells, .int x9.1.2.2])), (a_t_cells, .inl (cI, x17.1, .inl x17.2))]) ⟨hx, hb, hml, hown, hU⟩ hE (okX1_put a_t a_t_cells x9.1 x9.2 s_t.2.2 (0 : Int32) v1 x17 h17) lk_X1_35 hP hD hS hA [0, 1] rfl rfl rfl rfl rfl rfl hl.1 rfl (Nat.le_of_ble_eq_true rfl) ⟨Nat.le_of_ble_eq_true rfl, Nat.le_of_ble_eq_true rfl⟩ dX1_addRange_17 ⟨Nat.le_refl _, Nat.le_refl _⟩ rfl rfl rfl rfl (fun H locs hP hD hS => ?_)
  refine lv_aload_n hx hb dX1_addRange_20 rfl (lv_at hl 1 rfl) ?_
  refine lv_iload hx hb dX1_addRange_21 (lv_at hl 0 rfl) ?_
  refine lv_iconst (v := (1 : Int32)) hx hb dX1_addRange_23 (by decide) ?_
  refine lv_iload_n hx hb dX1_addRange_24 rfl (lv_at hl 3 rfl) ?_
  obtain ⟨x25, h25, hM⟩ := bind_e hM
  refine muV (As := [.int s_t.2.2, .int (1 : Int32), .int v2]) (rest := []) (st2 := []) (nw := [(a_t, .inr (1, [.int x9.1.1, .int x9.1.2.1, .ref a_t_cells, .int x9.1.2.2])), (a_t_cells, .inl (cI, x25.1, .inl x25.2))]) ⟨hx, hb, hml, hown, hU⟩ hE (okX1_put a_t a_t_cells x9.1 x17 s_t.2.2 (1 : Int32) v2 x25 h25) lk_X1_35 hP hD hS hA [0, 1] rfl rfl rfl rfl rfl rfl hl.1 rfl (Nat.le_of_ble_eq_true rfl) ⟨Nat.le_of_ble_eq_true rfl, Nat.le_of_ble_eq_true rfl⟩ dX1_addRange_25 ⟨Nat.le_refl _, Nat.le_refl _⟩ rfl rfl rfl rfl (fun H locs hP hD hS => ?_)
  refine lv_aload_n hx hb dX1_addRange_28 rfl (lv_at hl 1 rfl) ?_
  refine lv_iload hx hb dX1_addRange_29 (lv_at hl 0 rfl) ?_
  refine lv_iconst (v := (2 : Int32)) hx hb dX1_addRange_31 (by decide) ?_
  refine lv_iload_n hx hb dX1_addRange_32 rfl (lv_at hl 2 rfl) ?_
  refine lv_iload_n hx hb dX1_addRange_33 rfl (lv_at hl 3 rfl) ?_
  obtain ⟨x34, h34, hM⟩ := bind_e hM
  refine rdN (As := [.int v1, .int v2]) (rest := [.int (2 : Int32), .int s_t.2.2, .ref a_t]) (st2 := [.int x34, .int (2 : Int32), .int s_t.2.2, .ref a_t]) ⟨hx, hb, hml, hown, hU⟩ hE hE.2.2.1 (okX3_coverOf v1 v2 x34 h34) kn_X3_coverOf (hP.sub [] rfl) rfl hl.1 rfl (Nat.le_of_ble_eq_true rfl) ⟨Nat.le_of_ble_eq_true rfl, Nat.le_of_ble_eq_true rfl⟩ dX1_addRange_34 ⟨Nat.le_refl _, Nat.le_refl _⟩ rfl ?_
  obtain ⟨x37, h37, hM⟩ := bind_e hM
  refine muV (As := [.int s_t.2.2, .int (2 : Int32), .int x34]) (rest := []) (st2 := []) (nw := [(a_t, .inr (1, [.int x9.1.1, .int x9.1.2.1, .ref a_t_cells, .int x9.1.2.2])), (a_t_cells, .inl (cI, x37.1, .inl x37.2))]) ⟨hx, hb, hml, hown, hU⟩ hE (okX1_put a_t a_t_cells x9.1 x25 s_t.2.2 (2 : Int32) x34 x37 h37) lk_X1_35 hP hD hS hA [0, 1] rfl rfl rfl rfl rfl rfl hl.1 rfl (Nat.le_of_ble_eq_true rfl) ⟨Nat.le_of_ble_eq_true rfl, Nat.le_of_ble_eq_true rfl⟩ dX1_addRange_37 ⟨Nat.le_refl _, Nat.le_refl _⟩ rfl rfl rfl rfl (fun H locs hP hD hS => ?_)
  refine lv_aload_n hx hb dX1_addRange_40 rfl (lv_at hl 1 rfl) ?_
  refine lv_iload hx hb dX1_addRange_41 (lv_at hl 0 rfl) ?_
  refine lv_iconst (v := (3 : Int32)) hx hb dX1_addRange_43 (by decide) ?_
  refine lv_iload_n hx hb dX1_addRange_44 rfl (lv_at hl 4 rfl) ?_
  obtain ⟨x45, h45, hM⟩ := bind_e hM
  refine muV (As := [.int s_t.2.2, .int (3 : Int32), .int v3]) (rest := []) (st2 := []) (nw := [(a_t, .inr (1, [.int x9.1.1, .int x9.1.2.1, .ref a_t_cells, .int x9.1.2.2])), (a_t_cells, .inl (cI, x45.1, .inl x45.2))]) ⟨hx, hb, hml, hown, hU⟩ hE (okX1_put a_t a_t_cells x9.1 x37 s_t.2.2 (3 : Int32) v3 x45 h45) lk_X1_35 hP hD hS hA [0, 1] rfl rfl rfl rfl rfl rfl hl.1 rfl (Nat.le_of_ble_eq_true rfl) ⟨Nat.le_of_ble_eq_true rfl, Nat.le_of_ble_eq_true rfl⟩ dX1_addRange_45 ⟨Nat.le_refl _, Nat.le_refl _⟩ rfl rfl rfl rfl (fun H locs hP hD hS => ?_)
  refine lv_aload_n hx hb dX1_addRange_48 rfl (lv_at hl 1 rfl) ?_
  refine lv_iload hx hb dX1_addRange_49 (lv_at hl 0 rfl) ?_
  refine lv_iconst (v := (4 : Int32)) hx hb dX1_addRange_51 (by decide) ?_
  refine lv_iload hx hb dX1_addRange_52 (lv_at hl 5 rfl) ?_
  obtain ⟨x54, h54, hM⟩ := bind_e hM
  refine muV (As := [.int s_t.2.2, .int (4 : Int32), .int v4]) (rest := []) (st2 := []) (nw := [(a_t, .inr (1, [.int x9.1.1, .int x9.1.2.1, .ref a_t_cells, .int x9.1.2.2])), (a_t_cells, .inl (cI, x54.1, .inl x54.2))]) ⟨hx, hb, hml, hown, hU⟩ hE (okX1_put a_t a_t_cells x9.1 x45 s_t.2.2 (4 : Int32) v4 x54 h54) lk_X1_35 hP hD hS hA [0, 1] rfl rfl rfl rfl rfl rfl hl.1 rfl (Nat.le_of_ble_eq_true rfl) ⟨Nat.le_of_ble_eq_true rfl, Nat.le_of_ble_eq_true rfl⟩ dX1_addRange_54 ⟨Nat.le_refl _, Nat.le_refl _⟩ rfl rfl rfl rfl (fun H locs hP hD hS => ?_)
  refine lv_aload_n hx hb dX1_addRange_57 rfl (lv_at hl 1 rfl) ?_
  refine lv_iload hx hb dX1_addRange_58 (lv_at hl 0 rfl) ?_
  refine lv_iconst (v := (5 : Int32)) hx hb dX1_addRange_60 (by decide) ?_
  refine lv_iload hx hb dX1_addRange_61 (lv_at hl 6 rfl) ?_
  obtain ⟨x63, h63, hM⟩ := bind_e hM
  refine muV (As := [.int s_t.2.2, .int (5 : Int32), .int v5]) (rest := []) (st2 := []) (nw := [(a_t, .inr (1, [.int x9.1.1, .int x9.1.2.1, .ref a_t_cells, .int x9.1.2.2])), (a_t_cells, .inl (cI, x63.1, .inl x63.2))]) ⟨hx, hb, hml, hown, hU⟩ hE (okX1_put a_t a_t_cells x9.1 x54 s_t.2.2 (5 : Int32) v5 x63 h63) lk_X1_35 hP hD hS hA [0, 1] rfl rfl rfl rfl rfl rfl hl.1 rfl (Nat.le_of_ble_eq_true rfl) ⟨Nat.le_of_ble_eq_true rfl, Nat.le_of_ble_eq_true rfl⟩ dX1_addRange_63 ⟨Nat.le_refl _, Nat.le_refl _⟩ rfl rfl rfl rfl (fun H locs hP hD hS => ?_)
  refine lv_iload hx hb dX1_addRange_66 (lv_at hl 0 rfl) ?_
  cases hM
  exact rt _ _ _ _ _ hP hS dX1_addRange_68 rfl
noncomputable def mX1_at (s_t : Int32 × Int32 × Int32) (s_t_cells : Ar) (v1 : Int32) (v2 : Int32) : Option (Int32) := (if v1 < 0 then some ((0 : Int32)) else (if s_t.2.2 ≤ v1 then some ((0 : Int32)) else (if v2 < 0 then some ((0 : Int32)) else (if v2 < s_t.2.1 then rd s_t_cells.2 s_t_cells.1 ((v1 * s_t.2.1) + v2) (fun x38 => some (x38)) else some ((0 : Int32))))))
set_option maxHeartbeats 4000000 in
set_option maxRecDepth 100000 in
theorem okX1_at {l : Launch} {dC : Nat → ClassId} {dI : Nat → Nat → Nat} {cI cC cZ : ClassId} (a_t a_t_cells : Nat) (s_t : Int32 × Int32 × Int32) (s_t_cells : Ar) (v1 : Int32) (v2 : Int32) (res : Int32) (hM : mX1_at s_t s_t_cells v1 v2 = some res) : Rd l yX1_at cX1_at 3 (some .int) 0 0 (dC, dI) cI cC cZ [(a_t, .inr (1, [.int s_t.1, .int s_t.2.1, .ref a_t_cells, .int s_t.2.2])), (a_t_cells, .inl (cI, s_t_cells.1, .inl s_t_cells.2))] [.ref a_t, .int v1, .int v2] (some (.int res)) := by
  refine Rd.ofI (by decide) (Nat.le_of_ble_eq_true rfl) [(0, .ref a_t), (1, .int v1), (2, .int v2)] rfl ?_
  intro p e s m args below meth c ls Q hx hb hml hown hU hE hP rt hl
  have hown : s.vm.findClass RX1 = some m.cls := hown
  unfold mX1_at at hM
  refine lv_iload_n hx hb dX1_at_0 rfl (lv_at hl 1 rfl) ?_
  refine lv_if_lt (tgt := 24) hx hb dX1_at_1 (by decide) (fun c1 => ?_) (fun c1 => ?_)
  · have hM := ite_t c1 hM
    refine lv_iconst (v := (0 : Int32)) hx hb dX1_at_24 (by decide) ?_
    cases hM
    exact rt _ _ _ dX1_at_25 rfl
  · have hM := ite_f c1 hM
    refine lv_iload_n hx hb dX1_at_4 rfl (lv_at hl 1 rfl) ?_
    refine lv_aload_n hx hb dX1_at_5 rfl (lv_at hl 0 rfl) ?_
    refine va_get (D := (dC, dI)) (ci := 1) (v := .int s_t.2.2) (C := RX1) (T := TX1) (N := 4) hx hb hU inlX1 hown hE.1 hP 0 rfl rfl 3 (by decide) (hU _ u_3_18) (fun _ h9 => h9) rfl dX1_at_6 ?_
    refine lv_icmp_ge (tgt := 24) hx hb dX1_at_9 (by decide) (fun c9 => ?_) (fun c9 => ?_)
    · have hM := ite_t c9 hM
      refine lv_iconst (v := (0 : Int32)) hx hb dX1_at_24 (by decide) ?_
      cases hM
      exact rt _ _ _ dX1_at_25 rfl
    · have hM := ite_f c9 hM
      refine lv_iload_n hx hb dX1_at_12 rfl (lv_at hl 2 rfl) ?_
      refine lv_if_lt (tgt := 24) hx hb dX1_at_13 (by decide) (fun c13 => ?_) (fun c13 => ?_)
      · have hM := ite_t c13 hM
        refine lv_iconst (v := (0 : Int32)) hx hb dX1_at_24 (by decide) ?_
        cases hM
        exact rt _ _ _ dX1_at_25 rfl
      · have hM := ite_f c13 hM
        refine lv_iload_n hx hb dX1_at_16 rfl (lv_at hl 2 rfl) ?_
        refine lv_aload_n hx hb dX1_at_17 rfl (lv_at hl 0 rfl) ?_
        refine va_get (D := (dC, dI)) (ci := 1) (v := .int s_t.2.1) (C := RX1) (T := TX1) (N := 4) hx hb hU inlX1 hown hE.1 hP 0 rfl rfl 1 (by decide) (hU _ u_2_17) (fun _ h9 => h9) rfl dX1_at_18 ?_
        refine lv_icmp_lt (tgt := 26) hx hb dX1_at_21 (by decide) (fun c21 => ?_) (fun c21 => ?_)
        · have hM := ite_t c21 hM
          refine lv_aload_n hx hb dX1_at_26 rfl (lv_at hl 0 rfl) ?_
          refine va_get (D := (dC, dI)) (ci := 1) (v := .ref a_t_cells) (C := RX1) (T := TX1) (N := 4) hx hb hU inlX1 hown hE.1 hP 0 rfl rfl 2 (by decide) (hU _ u_2_18) (fun _ h9 => h9) rfl dX1_at_27 ?_
          refine lv_iload_n hx hb dX1_at_30 rfl (lv_at hl 1 rfl) ?_
          refine lv_aload_n hx hb dX1_at_31 rfl (lv_at hl 0 rfl) ?_
          refine va_get (D := (dC, dI)) (ci := 1) (v := .int s_t.2.1) (C := RX1) (T := TX1) (N := 4) hx hb hU inlX1 hown hE.1 hP 0 rfl rfl 1 (by decide) (hU _ u_2_17) (fun _ h9 => h9) rfl dX1_at_32 ?_
          refine lv_imul hx hb dX1_at_35 ?_
          refine lv_iload_n hx hb dX1_at_36 rfl (lv_at hl 2 rfl) ?_
          refine lv_iadd hx hb dX1_at_37 ?_
          obtain ⟨g38, hM⟩ := rd_e hM
          refine va_iald hx hb hE.1 hP 1 0 rfl rfl g38 dX1_at_38 ?_
          cases hM
          exact rt _ _ _ dX1_at_39 rfl
        · have hM := ite_f c21 hM
          refine lv_iconst (v := (0 : Int32)) hx hb dX1_at_24 (by decide) ?_
          cases hM
          exact rt _ _ _ dX1_at_25 rfl
noncomputable def mX1_closeAt (s_t : Int32 × Int32 × Int32) (s_t_cells : Ar) (v1 : Int32) : Option ((Int32 × Int32 × Int32) × Ar) := (if v1 < 0 then some (s_t, s_t_cells) else (if v1 < s_t.2.2 then acp s_t_cells.2 s_t_cells.1 ((v1 + (1 : Int32)) * s_t.2.1) s_t_cells.2 s_t_cells.1 (v1 * s_t.2.1) (((s_t.2.2 - (1 : Int32)) - v1) * s_t.2.1) (fun x56 => some ((s_t.1, s_t.2.1, (s_t.2.2 - (1 : Int32))), (s_t_cells.1, x56))) else some (s_t, s_t_cells)))
set_option maxHeartbeats 4000000 in
set_option maxRecDepth 100000 in
theorem okX1_closeAt {l : Launch} {dC : Nat → ClassId} {dI : Nat → Nat → Nat} {cI cC cZ : ClassId} (a_t a_t_cells : Nat) (s_t : Int32 × Int32 × Int32) (s_t_cells : Ar) (v1 : Int32) (res : (Int32 × Int32 × Int32) × Ar) (hM : mX1_closeAt s_t s_t_cells v1 = some res) : Mu l yX1_closeAt cX1_closeAt 2 none 1 40 (dC, dI) cI cC cZ [(a_t, .inr (1, [.int s_t.1, .int s_t.2.1, .ref a_t_cells, .int s_t.2.2])), (a_t_cells, .inl (cI, s_t_cells.1, .inl s_t_cells.2))] [(a_t, .inr (1, [.int res.1.1, .int res.1.2.1, .ref a_t_cells, .int res.1.2.2])), (a_t_cells, .inl (cI, res.2.1, .inl res.2.2))] [.ref a_t, .int v1] none := by
  refine Mu.ofV (by decide) (Nat.le_of_ble_eq_true rfl) [(0, .ref a_t), (1, .int v1)] rfl ?_
  intro p e s m args below meth c ls Q A hx hb hml hown hU hE hP hD hS hA rt hl
  have hown : s.vm.findClass RX1 = some m.cls := hown
  unfold mX1_closeAt at hM
  refine lv_iload_n hx hb dX1_closeAt_0 rfl (lv_at hl 1 rfl) ?_
  refine lv_if_lt (tgt := 12) hx hb dX1_closeAt_1 (by decide) (fun c1 => ?_) (fun c1 => ?_)
  · have hM := ite_t c1 hM
    cases hM
    exact rt _ _ _ _ hP hS dX1_closeAt_12 rfl
  · have hM := ite_f c1 hM
    refine lv_iload_n hx hb dX1_closeAt_4 rfl (lv_at hl 1 rfl) ?_
    refine lv_aload_n hx hb dX1_closeAt_5 rfl (lv_at hl 0 rfl) ?_
    refine va_get (D := (dC, dI)) (ci := 1) (v := .int s_t.2.2) (C := RX1) (T := TX1) (N := 4) hx hb hU inlX1 hown hE.1 hP 0 rfl rfl 3 (by decide) (hU _ u_3_18) (fun _ h9 => h9) rfl dX1_closeAt_6 ?_
    refine lv_icmp_lt (tgt := 13) hx hb dX1_closeAt_9 (by decide) (fun c9 => ?_) (fun c9 => ?_)
    · have hM := ite_t c9 hM
      refine lv_aload_n hx hb dX1_closeAt_13 rfl (lv_at hl 0 rfl) ?_
      refine lv_dup hx hb dX1_closeAt_14 rfl ?_
      refine va_get (D := (dC, dI)) (ci := 1) (v := .int s_t.2.2) (C := RX1) (T := TX1) (N := 4) hx hb hU inlX1 hown hE.1 hP 0 rfl rfl 3 (by decide) (hU _ u_3_18) (fun _ h9 => h9) rfl dX1_closeAt_15 ?_
      refine lv_iconst (v := (1 : Int32)) hx hb dX1_closeAt_18 (by decide) ?_
      refine lv_isub hx hb dX1_closeAt_19 ?_
      refine va_put (D := (dC, dI)) (ci := 1) (v := .int (s_t.2.2 - (1 : Int32))) (ty := .int) (C := RX1) (T := TX1) (N := 4) hx hb hU inlX1 tyX1 tyX1_ok nmX1 hown hE.1 hP hD hS 0 rfl rfl 3 (by decide) (hU _ u_3_18) (fun _ h9 => h9) rfl (tyX1_ok 3 (by decide)) rfl rfl (Nat.le_of_ble_eq_true rfl) dX1_closeAt_20 (fun H locs hP hD hS => ?_)
      have hP : va_P (dC, dI) vwCl [(a_t, .inr (1, [.int s_t.1, .int s_t.2.1, .ref a_t_cells, .int (s_t.2.2 - (1 : Int32))])), (a_t_cells, .inl (cI, s_t_cells.1, .inl s_t_cells.2))] H := hP
      have hD : va_D A [(a_t, .inr (1, [.int s_t.1, .int s_t.2.1, .ref a_t_cells, .int (s_t.2.2 - (1 : Int32))])), (a_t_cells, .inl (cI, s_t_cells.1, .inl s_t_cells.2))] := hD
      refine lv_aload_n hx hb dX1_closeAt_23 rfl (lv_at hl 0 rfl) ?_
      refine va_get (D := (dC, dI)) (ci := 1) (v := .ref a_t_cells) (C := RX1) (T := TX1) (N := 4) hx hb hU inlX1 hown hE.1 hP 0 rfl rfl 2 (by decide) (hU _ u_2_18) (fun _ h9 => h9) rfl dX1_closeAt_24 ?_
      refine lv_iload_n hx hb dX1_closeAt_27 rfl (lv_at hl 1 rfl) ?_
      refine lv_iconst (v := (1 : Int32)) hx hb dX1_closeAt_28 (by decide) ?_
      refine lv_iadd hx hb dX1_closeAt_29 ?_
      refine lv_aload_n hx hb dX1_closeAt_30 rfl (lv_at hl 0 rfl) ?_
      refine va_get (D := (dC, dI)) (ci := 1) (v := .int s_t.2.1) (C := RX1) (T := TX1) (N := 4) hx hb hU inlX1 hown hE.1 hP 0 rfl rfl 1 (by decide) (hU _ u_2_17) (fun _ h9 => h9) rfl dX1_closeAt_31 ?_
      refine lv_imul hx hb dX1_closeAt_34 ?_
      refine lv_aload_n hx hb dX1_closeAt_35 rfl (lv_at hl 0 rfl) ?_
      refine va_get (D := (dC, dI)) (ci := 1) (v := .ref a_t_cells) (C := RX1) (T := TX1) (N := 4) hx hb hU inlX1 hown hE.1 hP 0 rfl rfl 2 (by decide) (hU _ u_2_18) (fun _ h9 => h9) rfl dX1_closeAt_36 ?_
      refine lv_iload_n hx hb dX1_closeAt_39 rfl (lv_at hl 1 rfl) ?_
      refine lv_aload_n hx hb dX1_closeAt_40 rfl (lv_at hl 0 rfl) ?_
      refine va_get (D := (dC, dI)) (ci := 1) (v := .int s_t.2.1) (C := RX1) (T := TX1) (N := 4) hx hb hU inlX1 hown hE.1 hP 0 rfl rfl 1 (by decide) (hU _ u_2_17) (fun _ h9 => h9) rfl dX1_closeAt_41 ?_
      refine lv_imul hx hb dX1_closeAt_44 ?_
      refine lv_aload_n hx hb dX1_closeAt_45 rfl (lv_at hl 0 rfl) ?_
      refine va_get (D := (dC, dI)) (ci := 1) (v := .int (s_t.2.2 - (1 : Int32))) (C := RX1) (T := TX1) (N := 4) hx hb hU inlX1 hown hE.1 hP 0 rfl rfl 3 (by decide) (hU _ u_3_18) (fun _ h9 => h9) rfl dX1_closeAt_46 ?_
      refine lv_iload_n hx hb dX1_closeAt_49 rfl (lv_at hl 1 rfl) ?_
      refine lv_isub hx hb dX1_closeAt_50 ?_
      refine lv_aload_n hx hb dX1_closeAt_51 rfl (lv_at hl 0 rfl) ?_
      refine va_get (D := (dC, dI)) (ci := 1) (v := .int s_t.2.1) (C := RX1) (T := TX1) (N := 4) hx hb hU inlX1 hown hE.1 hP 0 rfl rfl 1 (by decide) (hU _ u_2_17) (fun _ h9 => h9) rfl dX1_closeAt_52 ?_
      refine lv_imul hx hb dX1_closeAt_55 ?_
      obtain ⟨g56, hM⟩ := acp_e hM
      refine va_copyi hx hb (hml.trans hl.1.symm) hown (hU _ u_3_23) (hU _ u_4_0) (hU _ u_4_1) (hU _ u_4_2) hE.1 hP hD hS 1 1 0 0 rfl rfl rfl rfl rfl g56.1 g56.2.1 g56.2.2.1 g56.2.2.2.1 g56.2.2.2.2 (fun _ _ => rfl) (Nat.le_of_ble_eq_true rfl) (Nat.le_of_ble_eq_true rfl) dX1_closeAt_56 (fun H locs hP hD hS => ?_)
      have hP : va_P (dC, dI) vwCl [(a_t, .inr (1, [.int s_t.1, .int s_t.2.1, .ref a_t_cells, .int (s_t.2.2 - (1 : Int32))])), (a_t_cells, .inl (cI, s_t_cells.1, .inl (va_cpy s_t_cells.2 s_t_cells.2 ((v1 + (1 : Int32)) * s_t.2.1).toNatClampNeg (v1 * s_t.2.1).toNatClampNeg (((s_t.2.2 - (1 : Int32)) - v1) * s_t.2.1).toNatClampNeg)))] H := hP
      have hD : va_D A [(a_t, .inr (1, [.int s_t.1, .int s_t.2.1, .ref a_t_cells, .int (s_t.2.2 - (1 : Int32))])), (a_t_cells, .inl (cI, s_t_cells.1, .inl (va_cpy s_t_cells.2 s_t_cells.2 ((v1 + (1 : Int32)) * s_t.2.1).toNatClampNeg (v1 * s_t.2.1).toNatClampNeg (((s_t.2.2 - (1 : Int32)) - v1) * s_t.2.1).toNatClampNeg)))] := hD
      cases hM
      exact rt _ _ _ _ hP hS dX1_closeAt_59 rfl
    · have hM := ite_f c9 hM
      cases hM
      exact rt _ _ _ _ hP hS dX1_closeAt_12 rfl
noncomputable def mX1_copyFrom (s_t : Int32 × Int32 × Int32) (s_q1 : Int32 × Int32 × Int32) (s_q1_cells : Ar) (s_t_cells : Ar) : Option ((Int32 × Int32 × Int32) × Ar) := (if s_q1.2.1 = s_t.2.1 then (if s_q1.2.2 ≤ s_t.1 then acp s_q1_cells.2 s_q1_cells.1 (0 : Int32) s_t_cells.2 s_t_cells.1 (0 : Int32) (s_q1.2.2 * s_t.2.1) (fun x42 => some ((s_t.1, s_t.2.1, s_q1.2.2), (s_t_cells.1, x42))) else some (s_t, s_t_cells)) else some (s_t, s_t_cells))
set_option maxHeartbeats 4000000 in
set_option maxRecDepth 100000 in
theorem okX1_copyFrom {l : Launch} {dC : Nat → ClassId} {dI : Nat → Nat → Nat} {cI cC cZ : ClassId} (a_t a_t_cells a_q1 a_q1_cells : Nat) (s_t : Int32 × Int32 × Int32) (s_q1 : Int32 × Int32 × Int32) (s_q1_cells : Ar) (s_t_cells : Ar) (res : (Int32 × Int32 × Int32) × Ar) (hM : mX1_copyFrom s_t s_q1 s_q1_cells s_t_cells = some res) : Mu l yX1_copyFrom cX1_copyFrom 2 none 1 40 (dC, dI) cI cC cZ [(a_t, .inr (1, [.int s_t.1, .int s_t.2.1, .ref a_t_cells, .int s_t.2.2])), (a_q1, .inr (1, [.int s_q1.1, .int s_q1.2.1, .ref a_q1_cells, .int s_q1.2.2])), (a_q1_cells, .inl (cI, s_q1_cells.1, .inl s_q1_cells.2)), (a_t_cells, .inl (cI, s_t_cells.1, .inl s_t_cells.2))] [(a_t, .inr (1, [.int res.1.1, .int res.1.2.1, .ref a_t_cells, .int res.1.2.2])), (a_q1, .inr (1, [.int s_q1.1, .int s_q1.2.1, .ref a_q1_cells, .int s_q1.2.2])), (a_q1_cells, .inl (cI, s_q1_cells.1, .inl s_q1_cells.2)), (a_t_cells, .inl (cI, res.2.1, .inl res.2.2))] [.ref a_t, .ref a_q1] none := by
  refine Mu.ofV (by decide) (Nat.le_of_ble_eq_true rfl) [(0, .ref a_t), (1, .ref a_q1)] rfl ?_
  intro p e s m args below meth c ls Q A hx hb hml hown hU hE hP hD hS hA rt hl
  have hown : s.vm.findClass RX1 = some m.cls := hown
  unfold mX1_copyFrom at hM
  refine lv_aload_n hx hb dX1_copyFrom_0 rfl (lv_at hl 1 rfl) ?_
  refine va_get (D := (dC, dI)) (ci := 1) (v := .int s_q1.2.1) (C := RX1) (T := TX1) (N := 4) hx hb hU inlX1 hown hE.1 hP 1 rfl rfl 1 (by decide) (hU _ u_2_17) (fun _ h9 => h9) rfl dX1_copyFrom_1 ?_
  refine lv_aload_n hx hb dX1_copyFrom_4 rfl (lv_at hl 0 rfl) ?_
  refine va_get (D := (dC, dI)) (ci := 1) (v := .int s_t.2.1) (C := RX1) (T := TX1) (N := 4) hx hb hU inlX1 hown hE.1 hP 0 rfl rfl 1 (by decide) (hU _ u_2_17) (fun _ h9 => h9) rfl dX1_copyFrom_5 ?_
  refine lv_icmp_ne (tgt := 22) hx hb dX1_copyFrom_8 (by decide) (fun c8 => ?_) (fun c8 => ?_)
  · have hM := ite_f c8 hM
    cases hM
    exact rt _ _ _ _ hP hS dX1_copyFrom_22 rfl
  · have hM := ite_t c8 hM
    refine lv_aload_n hx hb dX1_copyFrom_11 rfl (lv_at hl 1 rfl) ?_
    refine va_get (D := (dC, dI)) (ci := 1) (v := .int s_q1.2.2) (C := RX1) (T := TX1) (N := 4) hx hb hU inlX1 hown hE.1 hP 1 rfl rfl 3 (by decide) (hU _ u_3_18) (fun _ h9 => h9) rfl dX1_copyFrom_12 ?_
    refine lv_aload_n hx hb dX1_copyFrom_15 rfl (lv_at hl 0 rfl) ?_
    refine va_get (D := (dC, dI)) (ci := 1) (v := .int s_t.1) (C := RX1) (T := TX1) (N := 4) hx hb hU inlX1 hown hE.1 hP 0 rfl rfl 0 (by decide) (hU _ u_2_16) (fun _ h9 => h9) rfl dX1_copyFrom_16 ?_
    refine lv_icmp_le (tgt := 23) hx hb dX1_copyFrom_19 (by decide) (fun c19 => ?_) (fun c19 => ?_)
    · have hM := ite_t c19 hM
      refine lv_aload_n hx hb dX1_copyFrom_23 rfl (lv_at hl 1 rfl) ?_
      refine va_get (D := (dC, dI)) (ci := 1) (v := .ref a_q1_cells) (C := RX1) (T := TX1) (N := 4) hx hb hU inlX1 hown hE.1 hP 1 rfl rfl 2 (by decide) (hU _ u_2_18) (fun _ h9 => h9) rfl dX1_copyFrom_24 ?_
      refine lv_iconst (v := (0 : Int32)) hx hb dX1_copyFrom_27 (by decide) ?_
      refine lv_aload_n hx hb dX1_copyFrom_28 rfl (lv_at hl 0 rfl) ?_
      refine va_get (D := (dC, dI)) (ci := 1) (v := .ref a_t_cells) (C := RX1) (T := TX1) (N := 4) hx hb hU inlX1 hown hE.1 hP 0 rfl rfl 2 (by decide) (hU _ u_2_18) (fun _ h9 => h9) rfl dX1_copyFrom_29 ?_
      refine lv_iconst (v := (0 : Int32)) hx hb dX1_copyFrom_32 (by decide) ?_
      refine lv_aload_n hx hb dX1_copyFrom_33 rfl (lv_at hl 1 rfl) ?_
      refine va_get (D := (dC, dI)) (ci := 1) (v := .int s_q1.2.2) (C := RX1) (T := TX1) (N := 4) hx hb hU inlX1 hown hE.1 hP 1 rfl rfl 3 (by decide) (hU _ u_3_18) (fun _ h9 => h9) rfl dX1_copyFrom_34 ?_
      refine lv_aload_n hx hb dX1_copyFrom_37 rfl (lv_at hl 0 rfl) ?_
      refine va_get (D := (dC, dI)) (ci := 1) (v := .int s_t.2.1) (C := RX1) (T := TX1) (N := 4) hx hb hU inlX1 hown hE.1 hP 0 rfl rfl 1 (by decide) (hU _ u_2_17) (fun _ h9 => h9) rfl dX1_copyFrom_38 ?_
      refine lv_imul hx hb dX1_copyFrom_41 ?_
      obtain ⟨g42, hM⟩ := acp_e hM
      refine va_copyi hx hb (hml.trans hl.1.symm) hown (hU _ u_3_23) (hU _ u_4_0) (hU _ u_4_1) (hU _ u_4_2) hE.1 hP hD hS 2 3 0 0 rfl rfl rfl rfl rfl g42.1 g42.2.1 g42.2.2.1 g42.2.2.2.1 g42.2.2.2.2 (fun _ _ => rfl) (Nat.le_of_ble_eq_true rfl) (Nat.le_of_ble_eq_true rfl) dX1_copyFrom_42 (fun H locs hP hD hS => ?_)
      have hP : va_P (dC, dI) vwCl [(a_t, .inr (1, [.int s_t.1, .int s_t.2.1, .ref a_t_cells, .int s_t.2.2])), (a_q1, .inr (1, [.int s_q1.1, .int s_q1.2.1, .ref a_q1_cells, .int s_q1.2.2])), (a_q1_cells, .inl (cI, s_q1_cells.1, .inl s_q1_cells.2)), (a_t_cells, .inl (cI, s_t_cells.1, .inl (va_cpy s_q1_cells.2 s_t_cells.2 (0 : Int32).toNatClampNeg (0 : Int32).toNatClampNeg (s_q1.2.2 * s_t.2.1).toNatClampNeg)))] H := hP
      have hD : va_D A [(a_t, .inr (1, [.int s_t.1, .int s_t.2.1, .ref a_t_cells, .int s_t.2.2])), (a_q1, .inr (1, [.int s_q1.1, .int s_q1.2.1, .ref a_q1_cells, .int s_q1.2.2])), (a_q1_cells, .inl (cI, s_q1_cells.1, .inl s_q1_cells.2)), (a_t_cells, .inl (cI, s_t_cells.1, .inl (va_cpy s_q1_cells.2 s_t_cells.2 (0 : Int32).toNatClampNeg (0 : Int32).toNatClampNeg (s_q1.2.2 * s_t.2.1).toNatClampNeg)))] := hD
      refine lv_aload_n hx hb dX1_copyFrom_45 rfl (lv_at hl 0 rfl) ?_
      refine lv_aload_n hx hb dX1_copyFrom_46 rfl (lv_at hl 1 rfl) ?_
      refine va_get (D := (dC, dI)) (ci := 1) (v := .int s_q1.2.2) (C := RX1) (T := TX1) (N := 4) hx hb hU inlX1 hown hE.1 hP 1 rfl rfl 3 (by decide) (hU _ u_3_18) (fun _ h9 => h9) rfl dX1_copyFrom_47 ?_
      refine va_put (D := (dC, dI)) (ci := 1) (v := .int s_q1.2.2) (ty := .int) (C := RX1) (T := TX1) (N := 4) hx hb hU inlX1 tyX1 tyX1_ok nmX1 hown hE.1 hP hD hS 0 rfl rfl 3 (by decide) (hU _ u_3_18) (fun _ h9 => h9) rfl (tyX1_ok 3 (by decide)) rfl rfl (Nat.le_of_ble_eq_true rfl) dX1_copyFrom_50 (fun H locs hP hD hS => ?_)
      have hP : va_P (dC, dI) vwCl [(a_t, .inr (1, [.int s_t.1, .int s_t.2.1, .ref a_t_cells, .int s_q1.2.2])), (a_q1, .inr (1, [.int s_q1.1, .int s_q1.2.1, .ref a_q1_cells, .int s_q1.2.2])), (a_q1_cells, .inl (cI, s_q1_cells.1, .inl s_q1_cells.2)), (a_t_cells, .inl (cI, s_t_cells.1, .inl (va_cpy s_q1_cells.2 s_t_cells.2 (0 : Int32).toNatClampNeg (0 : Int32).toNatClampNeg (s_q1.2.2 * s_t.2.1).toNatClampNeg)))] H := hP
      have hD : va_D A [(a_t, .inr (1, [.int s_t.1, .int s_t.2.1, .ref a_t_cells, .int s_q1.2.2])), (a_q1, .inr (1, [.int s_q1.1, .int s_q1.2.1, .ref a_q1_cells, .int s_q1.2.2])), (a_q1_cells, .inl (cI, s_q1_cells.1, .inl s_q1_cells.2)), (a_t_cells, .inl (cI, s_t_cells.1, .inl (va_cpy s_q1_cells.2 s_t_cells.2 (0 : Int32).toNatClampNeg (0 : Int32).toNatClampNeg (s_q1.2.2 * s_t.2.1).toNatClampNeg)))] := hD
      cases hM
      exact rt _ _ _ _ hP hS dX1_copyFrom_53 rfl
    · have hM := ite_f c19 hM
      cases hM
      exact rt _ _ _ _ hP hS dX1_copyFrom_22 rfl
noncomputable def mX1_has (s_t : Int32 × Int32 × Int32) (v1 : Int32) : Option (Bool) := (if v1 < 0 then some (false) else (if s_t.2.2 ≤ v1 then some (false) else some (true)))
set_option maxHeartbeats 4000000 in
set_option maxRecDepth 100000 in
theorem okX1_has {l : Launch} {dC : Nat → ClassId} {dI : Nat → Nat → Nat} {cI cC cZ : ClassId} (a_t a_t_cells : Nat) (s_t : Int32 × Int32 × Int32) (v1 : Int32) (res : Bool) (hM : mX1_has s_t v1 = some res) : Rd l yX1_has cX1_has 2 (some .boolean) 0 0 (dC, dI) cI cC cZ [(a_t, .inr (1, [.int s_t.1, .int s_t.2.1, .ref a_t_cells, .int s_t.2.2]))] [.ref a_t, .int v1] (some (.int (b2i res))) := by
  refine Rd.ofZ (by decide) (Nat.le_of_ble_eq_true rfl) [(0, .ref a_t), (1, .int v1)] rfl ?_
  intro p e s m args below meth c ls Q hx hb hml hown hU hE hP rt hl
  have hown : s.vm.findClass RX1 = some m.cls := hown
  unfold mX1_has at hM
  refine lv_iload_n hx hb dX1_has_0 rfl (lv_at hl 1 rfl) ?_
  refine lv_if_lt (tgt := 16) hx hb dX1_has_1 (by decide) (fun c1 => ?_) (fun c1 => ?_)
  · have hM := ite_t c1 hM
    refine lv_iconst (v := (0 : Int32)) hx hb dX1_has_16 (by decide) ?_
    cases hM
    exact rt false _ _ dX1_has_17 rfl
  · have hM := ite_f c1 hM
    refine lv_iload_n hx hb dX1_has_4 rfl (lv_at hl 1 rfl) ?_
    refine lv_aload_n hx hb dX1_has_5 rfl (lv_at hl 0 rfl) ?_
    refine va_get (D := (dC, dI)) (ci := 1) (v := .int s_t.2.2) (C := RX1) (T := TX1) (N := 4) hx hb hU inlX1 hown hE.1 hP 0 rfl rfl 3 (by decide) (hU _ u_3_18) (fun _ h9 => h9) rfl dX1_has_6 ?_
    refine lv_icmp_ge (tgt := 16) hx hb dX1_has_9 (by decide) (fun c9 => ?_) (fun c9 => ?_)
    · have hM := ite_t c9 hM
      refine lv_iconst (v := (0 : Int32)) hx hb dX1_has_16 (by decide) ?_
      cases hM
      exact rt false _ _ dX1_has_17 rfl
    · have hM := ite_f c9 hM
      refine lv_iconst (v := (1 : Int32)) hx hb dX1_has_12 (by decide) ?_
      refine lv_goto (tgt := 17) hx hb dX1_has_13 (by decide) ?_
      cases hM
      exact rt true _ _ dX1_has_17 rfl
