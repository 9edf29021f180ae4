/-! a new Rows -/
set_option maxHeartbeats 4000000 in
set_option maxRecDepth 100000 in
theorem okX1_init {l : Launch} {dC : Nat → ClassId} {dI : Nat → Nat → Nat} {cI cC cZ : ClassId} (h0 lim wd : Nat) (h1 : lim ≤ 20) (h2 : wd ≤ 20) : Cn l yX1_init cX1_init 3 1 40 1 (lim * wd) (dC, dI) cI cC cZ [(h0, .inr (1, [.int 0, .int 0, .null, .int 0]))] [.ref h0, .int (nI lim), .int (nI wd)] (fun w' => ∃ q, w' = [(h0, .inr (1, [.int (nI lim), .int (nI wd), .ref q, .int 0])), (q, .inl (cI, lim * wd, .inl (fun _ => 0)))]) := by
  have hm : lim * wd ≤ 400 := Nat.mul_le_mul h1 h2
  refine Cn.of (by decide) (Nat.le_of_ble_eq_true rfl) [(0, .ref h0), (1, .int (nI lim)), (2, .int (nI wd))] rfl ?_
  intro p e s m args below meth c ls Q A hx hb hml hown hU hin hE hP hD hS hA rt hl
  have hown : s.vm.findClass RX1 = some m.cls := hown
  have hin : meth.name = "<init>" := hin
  refine lv_aload_n hx hb dX1_init_0 rfl (lv_at hl 0 rfl) ?_
  refine W.objInit hx hb hown (hU _ u_2_11) (hU _ u_1_11) (hU _ u_1_12) rfl (by rw [hml]; exact hl.1) rfl dX1_init_1 (Nat.le_of_ble_eq_true rfl) (Nat.le_of_ble_eq_true rfl) ?_
  refine W.eq (g2 := F0 m 4 ls []) rfl ?_
  refine lv_aload_n hx hb dX1_init_4 rfl (lv_at hl 0 rfl) ?_
  refine lv_iload_n hx hb dX1_init_5 rfl (lv_at hl 1 rfl) ?_
  refine lv_iconst (v := (0 : Int32)) hx hb dX1_init_6 (by decide) ?_
  refine va_mmax hx hb (hml.trans hl.1.symm) hown (hU _ u_2_12) (hU _ u_2_13) (hU _ u_2_14) (hU _ u_2_15) (Nat.le_of_ble_eq_true rfl) (Nat.le_of_ble_eq_true rfl) (Nat.zero_le _) (Nat.zero_le _) dX1_init_7 ?_
  rw [if_neg (show ¬ nI lim < (0 : Int32) from nI_pos (by omega))]
  refine va_putF (D := (dC, dI)) (ci := 1) (v := .int (nI lim)) (ty := .int) (C := RX1) (T := TX1) (N := 4) hx hb hU inlX1 tyX1 tyX1_ok nmX1 hown hE.1 hP hD hS 0 rfl rfl 0 (by decide) (hU _ u_2_16) (fun _ h9 => h9) rfl hin rfl (tyX1_ok 0 (by decide)) rfl rfl (Nat.le_of_ble_eq_true rfl) dX1_init_10 (fun H locs hP hD hS => ?_)
  have hP : va_P (dC, dI) vwCl [(h0, .inr (1, [.int (nI lim), .int 0, .null, .int 0]))] H := hP
  have hD : va_D A [(h0, .inr (1, [.int (nI lim), .int 0, .null, .int 0]))] := hD
  refine lv_aload_n hx hb dX1_init_13 rfl (lv_at hl 0 rfl) ?_
  refine lv_iload_n hx hb dX1_init_14 rfl (lv_at hl 2 rfl) ?_
  refine lv_iconst (v := (0 : Int32)) hx hb dX1_init_15 (by decide) ?_
  refine va_mmax hx hb (hml.trans hl.1.symm) hown (hU _ u_2_12) (hU _ u_2_13) (hU _ u_2_14) (hU _ u_2_15) (Nat.le_of_ble_eq_true rfl) (Nat.le_of_ble_eq_true rfl) (Nat.zero_le _) (Nat.zero_le _) dX1_init_16 ?_
  rw [if_neg (show ¬ nI wd < (0 : Int32) from nI_pos (by omega))]
  refine va_putF (D := (dC, dI)) (ci := 1) (v := .int (nI wd)) (ty := .int) (C := RX1) (T := TX1) (N := 4) hx hb hU inlX1 tyX1 tyX1_ok nmX1 hown hE.1 hP hD hS 0 rfl rfl 1 (by decide) (hU _ u_2_17) (fun _ h9 => h9) rfl hin rfl (tyX1_ok 1 (by decide)) rfl rfl (Nat.le_of_ble_eq_true rfl) dX1_init_19 (fun H locs hP hD hS => ?_)
  have hP : va_P (dC, dI) vwCl [(h0, .inr (1, [.int (nI lim), .int (nI wd), .null, .int 0]))] H := hP
  have hD : va_D A [(h0, .inr (1, [.int (nI lim), .int (nI wd), .null, .int 0]))] := hD
  refine lv_aload_n hx hb dX1_init_22 rfl (lv_at hl 0 rfl) ?_
  refine lv_aload_n hx hb dX1_init_23 rfl (lv_at hl 0 rfl) ?_
  refine va_get (D := (dC, dI)) (ci := 1) (v := .int (nI lim)) (C := RX1) (T := TX1) (N := 4) hx hb hU inlX1 hown hE.1 hP 0 rfl rfl 0 (by decide) (hU _ u_2_16) (fun _ h9 => h9) rfl dX1_init_24 ?_
  refine lv_aload_n hx hb dX1_init_27 rfl (lv_at hl 0 rfl) ?_
  refine va_get (D := (dC, dI)) (ci := 1) (v := .int (nI wd)) (C := RX1) (T := TX1) (N := 4) hx hb hU inlX1 hown hE.1 hP 0 rfl rfl 1 (by decide) (hU _ u_2_17) (fun _ h9 => h9) rfl dX1_init_28 ?_
  refine lv_imul hx hb dX1_init_31 ?_
  rw [pk_mul]
  refine va_newa (atype := .int) (ty := .int) (N' := lim * wd) (a0 := (lim * wd, .inl (fun _ => 0))) hx hb (hU _ u_2_6) rfl hE.1 hP hD hS hA (fun _ => rfl) (nI_pos (by omega)) (nI_clamp (by omega)) (by show lim * wd * 4 ≤ _; omega) (Nat.le_refl _) (by show 0 + lim * wd ≤ lim * wd; omega) dX1_init_32 (fun q cA H hK hP hD hS => ?_)
  have hcA : cA = cI := by
    have q1 := va_nm_int (hK.2 3 (cA, .int) rfl).2
    have q2 := va_nm_int (hE.1.2 0 (cI, .int) rfl).2
    exact Option.some.inj (q1.symm.trans q2)
  subst hcA
  have hP : va_P (dC, dI) vwCl [(h0, .inr (1, [.int (nI lim), .int (nI wd), .null, .int 0])), (q, .inl (cA, lim * wd, .inl (fun _ => 0)))] H := hP
  have hD : va_D A [(h0, .inr (1, [.int (nI lim), .int (nI wd), .null, .int 0])), (q, .inl (cA, lim * wd, .inl (fun _ => 0)))] := hD
  refine va_putF (D := (dC, dI)) (ci := 1) (v := .ref q) (ty := .array .int) (C := RX1) (T := TX1) (N := 4) hx hb hU inlX1 tyX1 tyX1_ok nmX1 hown hE.1 hP hD hS 0 rfl rfl 2 (by decide) (hU _ u_2_18) (fun _ h9 => h9) rfl hin rfl (tyX1_ok 2 (by decide)) rfl rfl (Nat.le_of_ble_eq_true rfl) dX1_init_34 (fun H locs hP hD hS => ?_)
  refine W.widen (k := 1) (n := lim * wd) (by omega) (by omega) ?_
  exact rt _ _ _ _ _ ⟨q, rfl⟩ hP hD hS dX1_init_37
