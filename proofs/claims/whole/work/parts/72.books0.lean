/-! a new Books -/
theorem lkI_X0_11 : LkI RX0 11 yX1_init cX1_init 3 2 := ⟨u_3_3, u_2_9, u_1_15, u_2_10, ⟨by decide, by decide, by decide⟩, rfl⟩
set_option maxHeartbeats 4000000 in
set_option maxRecDepth 100000 in
theorem okX0_init {l : Launch} {dC : Nat → ClassId} {dI : Nat → Nat → Nat} {cI cC cZ : ClassId} (h0 hp : Nat) : Cn l yX0_init cX0_init 2 2 70 4 84 (dC, dI) cI cC cZ [(h0, .inr (0, [.null, .null, .null, .int 0, .int 0, .int 0]))] [.ref h0, .ref hp] (fun w' => ∃ g gc r rc, w' = [(h0, .inr (0, [.ref hp, .ref g, .ref r, .int 0, .int 0, .int 0])), (g, .inr (1, [.int (nI 8), .int (nI 6), .ref gc, .int 0])), (gc, .inl (cI, 8 * 6, .inl (fun _ => 0))), (r, .inr (1, [.int (nI 7), .int (nI 4), .ref rc, .int 0])), (rc, .inl (cI, 7 * 4, .inl (fun _ => 0)))]) := by
  refine Cn.of (by decide) (Nat.le_of_ble_eq_true rfl) [(0, .ref h0), (1, .ref hp)] rfl ?_
  intro p e s m args below meth c ls Q A hx hb hml hown hU hin hE hP hD hS hA rt hl
  have hown : s.vm.findClass RX0 = some m.cls := hown
  have hin : meth.name = "<init>" := hin
  refine lv_aload_n hx hb dX0_init_0 rfl (lv_at hl 0 rfl) ?_
  refine W.objInit hx hb hown (hU _ u_2_22) (hU _ u_1_11) (hU _ u_1_12) rfl (by rw [hml]; exact hl.1) rfl dX0_init_1 (Nat.le_of_ble_eq_true rfl) (Nat.le_of_ble_eq_true rfl) ?_
  refine W.eq (g2 := F0 m 4 ls []) rfl ?_
  refine lv_aload_n hx hb dX0_init_4 rfl (lv_at hl 0 rfl) ?_
  refine va_new (ci := 1) (fs := [.int 0, .int 0, .null, .int 0]) (C := RX1) (T := TX1) (N := 4) hx hb hU inlX1 tyX1 tyX1_ok hown (hU _ u_2_23) (hU _ u_1_14) (hU _ u_1_15) hE.1 hP hD hS hA rfl (fun j hj => by rcases (show j = 0 ∨ j = 1 ∨ j = 2 ∨ j = 3 by omega) with rfl | rfl | rfl | rfl <;> rfl) (Nat.le_of_ble_eq_true rfl) (Nat.le_of_ble_eq_true rfl) dX0_init_5 (fun g H hP hD hS => ?_)
  have hP : va_P (dC, dI) vwCl [(h0, .inr (0, [.null, .null, .null, .int 0, .int 0, .int 0])), (g, .inr (1, [.int 0, .int 0, .null, .int 0]))] H := hP
  have hD : va_D A [(h0, .inr (0, [.null, .null, .null, .int 0, .int 0, .int 0])), (g, .inr (1, [.int 0, .int 0, .null, .int 0]))] := hD
  refine lv_dup hx hb dX0_init_8 rfl ?_
  refine lv_bipush (v := (8 : Int32)) hx hb dX0_init_9 (by decide) ?_
  refine lv_bipush (v := (6 : Int32)) hx hb dX0_init_11 (by decide) ?_
  refine cnI (As := [.int (nI 8), .int (nI 6)]) (rest := [.ref g, .ref h0]) (wr := [(h0, .inr (0, [.null, .null, .null, .int 0, .int 0, .int 0]))]) ⟨hx, hb, hml, hown, hU⟩ hE (okX1_init g 8 6 (by decide) (by decide)) lkI_X0_11 hP hD hS hA [1] [0] rfl rfl rfl rfl rfl (by decide) rfl hl.1 rfl (Nat.le_of_ble_eq_true rfl) ⟨Nat.le_of_ble_eq_true rfl, Nat.le_of_ble_eq_true rfl⟩ dX0_init_13 ⟨Nat.le_of_ble_eq_true rfl, Nat.le_of_ble_eq_true rfl⟩ (fun w1 H locs hw hP hD hS => ?_)
  obtain ⟨gc, rfl⟩ := hw
  refine va_putF (D := (dC, dI)) (ci := 0) (v := .ref g) (ty := .object "RangePapers$Rows") (C := RX0) (T := TX0) (N := 6) hx hb hU inlX0 tyX0 tyX0_ok nmX0 hown hE.1 hP hD hS 0 rfl rfl 1 (by decide) (hU _ u_3_0) (fun _ h9 => h9) rfl hin rfl (tyX0_ok 1 (by decide)) rfl rfl (Nat.le_of_ble_eq_true rfl) dX0_init_16 (fun H locs hP hD hS => ?_)
  have hP : va_P (dC, dI) vwCl [(h0, .inr (0, [.null, .ref g, .null, .int 0, .int 0, .int 0])), (g, .inr (1, [.int (nI 8), .int (nI 6), .ref gc, .int 0])), (gc, .inl (cI, 8 * 6, .inl (fun _ => 0)))] H := hP
  have hD : va_D A [(h0, .inr (0, [.null, .ref g, .null, .int 0, .int 0, .int 0])), (g, .inr (1, [.int (nI 8), .int (nI 6), .ref gc, .int 0])), (gc, .inl (cI, 8 * 6, .inl (fun _ => 0)))] := hD
  refine lv_aload_n hx hb dX0_init_19 rfl (lv_at hl 0 rfl) ?_
  refine va_new (ci := 1) (fs := [.int 0, .int 0, .null, .int 0]) (C := RX1) (T := TX1) (N := 4) hx hb hU inlX1 tyX1 tyX1_ok hown (hU _ u_2_23) (hU _ u_1_14) (hU _ u_1_15) hE.1 hP hD hS hA rfl (fun j hj => by rcases (show j = 0 ∨ j = 1 ∨ j = 2 ∨ j = 3 by omega) with rfl | rfl | rfl | rfl <;> rfl) (Nat.le_of_ble_eq_true rfl) (Nat.le_of_ble_eq_true rfl) dX0_init_20 (fun r H hP hD hS => ?_)
  have hP : va_P (dC, dI) vwCl [(h0, .inr (0, [.null, .ref g, .null, .int 0, .int 0, .int 0])), (g, .inr (1, [.int (nI 8), .int (nI 6), .ref gc, .int 0])), (gc, .inl (cI, 8 * 6, .inl (fun _ => 0))), (r, .inr (1, [.int 0, .int 0, .null, .int 0]))] H := hP
  have hD : va_D A [(h0, .inr (0, [.null, .ref g, .null, .int 0, .int 0, .int 0])), (g, .inr (1, [.int (nI 8), .int (nI 6), .ref gc, .int 0])), (gc, .inl (cI, 8 * 6, .inl (fun _ => 0))), (r, .inr (1, [.int 0, .int 0, .null, .int 0]))] := hD
  refine lv_dup hx hb dX0_init_23 rfl ?_
  refine lv_bipush (v := (7 : Int32)) hx hb dX0_init_24 (by decide) ?_
  refine lv_iconst (v := (4 : Int32)) hx hb dX0_init_26 (by decide) ?_
  refine cnI (As := [.int (nI 7), .int (nI 4)]) (rest := [.ref r, .ref h0]) (wr := [(h0, .inr (0, [.null, .ref g, .null, .int 0, .int 0, .int 0])), (g, .inr (1, [.int (nI 8), .int (nI 6), .ref gc, .int 0])), (gc, .inl (cI, 8 * 6, .inl (fun _ => 0)))]) ⟨hx, hb, hml, hown, hU⟩ hE (okX1_init r 7 4 (by decide) (by decide)) lkI_X0_11 hP hD hS hA [3] [0, 1, 2] rfl rfl rfl rfl rfl (by decide) rfl hl.1 rfl (Nat.le_of_ble_eq_true rfl) ⟨Nat.le_of_ble_eq_true rfl, Nat.le_of_ble_eq_true rfl⟩ dX0_init_27 ⟨Nat.le_of_ble_eq_true rfl, Nat.le_of_ble_eq_true rfl⟩ (fun w1 H locs hw hP hD hS => ?_)
  obtain ⟨rc, rfl⟩ := hw
  refine va_putF (D := (dC, dI)) (ci := 0) (v := .ref r) (ty := .object "RangePapers$Rows") (C := RX0) (T := TX0) (N := 6) hx hb hU inlX0 tyX0 tyX0_ok nmX0 hown hE.1 hP hD hS 0 rfl rfl 2 (by decide) (hU _ u_3_1) (fun _ h9 => h9) rfl hin rfl (tyX0_ok 2 (by decide)) rfl rfl (Nat.le_of_ble_eq_true rfl) dX0_init_30 (fun H locs hP hD hS => ?_)
  refine lv_aload_n hx hb dX0_init_33 rfl (lv_at hl 0 rfl) ?_
  refine lv_aload_n hx hb dX0_init_34 rfl (lv_at hl 1 rfl) ?_
  refine va_putF (D := (dC, dI)) (ci := 0) (v := .ref hp) (ty := .object "RangePapers$Rows") (C := RX0) (T := TX0) (N := 6) hx hb hU inlX0 tyX0 tyX0_ok nmX0 hown hE.1 hP hD hS 0 rfl rfl 0 (by decide) (hU _ u_3_2) (fun _ h9 => h9) rfl hin rfl (tyX0_ok 0 (by decide)) rfl rfl (Nat.le_of_ble_eq_true rfl) dX0_init_35 (fun H locs hP hD hS => ?_)
  refine W.widen (k := 4) (n := 84) (Nat.le_of_ble_eq_true rfl) (Nat.le_of_ble_eq_true rfl) ?_
  exact rt _ _ _ _ _ ⟨g, gc, r, rc, rfl⟩ hP hD hS dX0_init_38
