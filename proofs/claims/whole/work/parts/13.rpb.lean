def mX3_judge_b42 (s_t_doings : Nat → Int32) (s_t_now : Int32 × Int32 × Int32) (s_t_trial_grants : Int32 × Int32 × Int32) (s_t_now_grants : Int32 × Int32 × Int32) (s_t_now_grants_cells : Ar) (s_t_trial_grants_cells : Ar) (s_t_now_routes : Int32 × Int32 × Int32) (s_t_now_routes_cells : Ar) (s_t_papers : Int32 × Int32 × Int32) (s_t_papers_cells : Ar) (v1 : Int32) : Nat → Int32 → Int32 × Int32 × Int32 → Int32 × Int32 × Int32 → Ar → Option (Int32 × (Nat → Int32) × (Int32 × Int32 × Int32) × (Int32 × Int32 × Int32) × Ar × (Int32 × Int32 × Int32) × Ar)
  | 0, _, _, _, _ => none
  | n + 1, v4, s_t_trial, s_t_trial_routes, s_t_trial_routes_cells => (if v1 ≤ v4 then some ((-9 : Int32), s_t_doings, s_t_trial, s_t_trial_grants, s_t_trial_grants_cells, s_t_trial_routes, s_t_trial_routes_cells) else (if (4 : Int32) ≤ v4 then some ((-9 : Int32), s_t_doings, s_t_trial, s_t_trial_grants, s_t_trial_grants_cells, s_t_trial_routes, s_t_trial_routes_cells) else rd s_t_doings 4 v4 (fun x64 => (mX0_canBe s_t_trial s_t_papers s_t_trial_routes s_t_papers_cells s_t_trial_grants s_t_trial_grants_cells s_t_trial_routes_cells x64).bind (fun x65 => (if x65.1 = true then mX3_judge_b42 s_t_doings s_t_now s_t_trial_grants s_t_now_grants s_t_now_grants_cells s_t_trial_grants_cells s_t_now_routes s_t_now_routes_cells s_t_papers s_t_papers_cells v1 n (v4 + (1 : Int32)) x65.2.1 x65.2.2.1 x65.2.2.2 else some (v4, s_t_doings, x65.2.1, s_t_trial_grants, s_t_trial_grants_cells, x65.2.2.1, x65.2.2.2))))))
def mX3_judge (s_t_doings : Nat → Int32) (s_t_trial : Int32 × Int32 × Int32) (s_t_now : Int32 × Int32 × Int32) (s_t_trial_grants : Int32 × Int32 × Int32) (s_t_now_grants : Int32 × Int32 × Int32) (s_t_now_grants_cells : Ar) (s_t_trial_grants_cells : Ar) (s_t_trial_routes : Int32 × Int32 × Int32) (s_t_now_routes : Int32 × Int32 × Int32) (s_t_now_routes_cells : Ar) (s_t_trial_routes_cells : Ar) (s_t_papers : Int32 × Int32 × Int32) (s_t_papers_cells : Ar) (v1 : Int32) (v2 : Int64) : Option (Int32 × (Nat → Int32) × (Int32 × Int32 × Int32) × (Int32 × Int32 × Int32) × Ar × (Int32 × Int32 × Int32) × Ar) := (if v1 < (1 : Int32) then some ((-2 : Int32), s_t_doings, s_t_trial, s_t_trial_grants, s_t_trial_grants_cells, s_t_trial_routes, s_t_trial_routes_cells) else (if (4 : Int32) < v1 then some ((-2 : Int32), s_t_doings, s_t_trial, s_t_trial_grants, s_t_trial_grants_cells, s_t_trial_routes, s_t_trial_routes_cells) else (if (lg_cmp v2 (0 : Int64)) < 0 then some ((-2 : Int32), s_t_doings, s_t_trial, s_t_trial_grants, s_t_trial_grants_cells, s_t_trial_routes, s_t_trial_routes_cells) else (mX3_splitDoings s_t_doings v1 v2).bind (fun x19 => (if x19.1 = true then (mX0_copyFrom s_t_trial s_t_now s_t_trial_grants s_t_now_grants s_t_now_grants_cells s_t_trial_grants_cells s_t_trial_routes s_t_now_routes s_t_now_routes_cells s_t_trial_routes_cells).bind (fun x36 => mX3_judge_b42 x19.2 s_t_now x36.2.1 s_t_now_grants s_t_now_grants_cells x36.2.2.1 s_t_now_routes s_t_now_routes_cells s_t_papers s_t_papers_cells v1 FU (0 : Int32) x36.1 x36.2.2.2.1 x36.2.2.2.2) else some ((-2 : Int32), x19.2, s_t_trial, s_t_trial_grants, s_t_trial_grants_cells, s_t_trial_routes, s_t_trial_routes_cells))))))
set_option maxHeartbeats 4000000 in
set_option maxRecDepth 100000 in
theorem okX3_judge {l : Launch} {dC : Nat → ClassId} {dI : Nat → Nat → Nat} {cI cC cZ : ClassId} (a_t a_t_papers a_t_now a_t_trial a_t_firstSlot a_t_secondSlot a_t_acts a_t_seen a_t_text a_t_doings a_t_trial_grants a_t_trial_routes a_t_now_grants a_t_now_routes a_t_trial_grants_cells a_t_now_grants_cells a_t_trial_routes_cells a_t_now_routes_cells a_t_papers_cells : Nat) (s_t : Int32 × Int64) (s_t_doings : Nat → Int32) (s_t_trial : Int32 × Int32 × Int32) (s_t_now : Int32 × Int32 × Int32) (s_t_trial_grants : Int32 × Int32 × Int32) (s_t_now_grants : Int32 × Int32 × Int32) (s_t_now_grants_cells : Ar) (s_t_trial_grants_cells : Ar) (s_t_trial_routes : Int32 × Int32 × Int32) (s_t_now_routes : Int32 × Int32 × Int32) (s_t_now_routes_cells : Ar) (s_t_trial_routes_cells : Ar) (s_t_papers : Int32 × Int32 × Int32) (s_t_papers_cells : Ar) (v1 : Int32) (v2 : Int64) (res : Int32 × (Nat → Int32) × (Int32 × Int32 × Int32) × (Int32 × Int32 × Int32) × Ar × (Int32 × Int32 × Int32) × Ar) (hM : mX3_judge s_t_doings s_t_trial s_t_now s_t_trial_grants s_t_now_grants s_t_now_grants_cells s_t_trial_grants_cells s_t_trial_routes s_t_now_routes s_t_now_routes_cells s_t_trial_routes_cells s_t_papers s_t_papers_cells v1 v2 = some res) : Mu l yX3_judge cX3_judge 5 (some .int) 6 147 (dC, dI) cI cC cZ [(a_t, .inr (3, [.ref a_t_papers, .ref a_t_now, .ref a_t_trial, .ref a_t_firstSlot, .ref a_t_secondSlot, .ref a_t_acts, .ref a_t_seen, .ref a_t_text, .ref a_t_doings, .int s_t.1, .long s_t.2])), (a_t_doings, .inl (cI, 4, .inl s_t_doings)), (a_t_trial, .inr (0, [.ref a_t_papers, .ref a_t_trial_grants, .ref a_t_trial_routes, .int s_t_trial.1, .int s_t_trial.2.1, .int s_t_trial.2.2])), (a_t_now, .inr (0, [.ref a_t_papers, .ref a_t_now_grants, .ref a_t_now_routes, .int s_t_now.1, .int s_t_now.2.1, .int s_t_now.2.2])), (a_t_trial_grants, .inr (1, [.int s_t_trial_grants.1, .int s_t_trial_grants.2.1, .ref a_t_trial_grants_cells, .int s_t_trial_grants.2.2])), (a_t_now_grants, .inr (1, [.int s_t_now_grants.1, .int s_t_now_grants.2.1, .ref a_t_now_grants_cells, .int s_t_now_grants.2.2])), (a_t_now_grants_cells, .inl (cI, s_t_now_grants_cells.1, .inl s_t_now_grants_cells.2)), (a_t_trial_grants_cells, .inl (cI, s_t_trial_grants_cells.1, .inl s_t_trial_grants_cells.2)), (a_t_trial_routes, .inr (1, [.int s_t_trial_routes.1, .int s_t_trial_routes.2.1, .ref a_t_trial_routes_cells, .int s_t_trial_routes.2.2])), (a_t_now_routes, .inr (1, [.int s_t_now_routes.1, .int s_t_now_routes.2.1, .ref a_t_now_routes_cells, .int s_t_now_routes.2.2])), (a_t_now_routes_cells, .inl (cI, s_t_now_routes_cells.1, .inl s_t_now_routes_cells.2)), (a_t_trial_routes_cells, .inl (cI, s_t_trial_routes_cells.1, .inl s_t_trial_routes_cells.2)), (a_t_papers, .inr (1, [.int s_t_papers.1, .int s_t_papers.2.1, .ref a_t_papers_cells, .int s_t_papers.2.2])), (a_t_papers_cells, .inl (cI, s_t_papers_cells.1, .inl s_t_papers_cells.2))] [(a_t, .inr (3, [.ref a_t_papers, .ref a_t_now, .ref a_t_trial, .ref a_t_firstSlot, .ref a_t_secondSlot, .ref a_t_acts, .ref a_t_seen, .ref a_t_text, .ref a_t_doings, .int s_t.1, .long s_t.2])), (a_t_doings, .inl (cI, 4, .inl res.2.1)), (a_t_trial, .inr (0, [.ref a_t_papers, .ref a_t_trial_grants, .ref a_t_trial_routes, .int res.2.2.1.1, .int res.2.2.1.2.1, .int res.2.2.1.2.2])), (a_t_now, .inr (0, [.ref a_t_papers, .ref a_t_now_grants, .ref a_t_now_routes, .int s_t_now.1, .int s_t_now.2.1, .int s_t_now.2.2])), (a_t_trial_grants, .inr (1, [.int res.2.2.2.1.1, .int res.2.2.2.1.2.1, .ref a_t_trial_grants_cells, .int res.2.2.2.1.2.2])), (a_t_now_grants, .inr (1, [.int s_t_now_grants.1, .int s_t_now_grants.2.1, .ref a_t_now_grants_cells, .int s_t_now_grants.2.2])), (a_t_now_grants_cells, .inl (cI, s_t_now_grants_cells.1, .inl s_t_now_grants_cells.2)), (a_t_trial_grants_cells, .inl (cI, res.2.2.2.2.1.1, .inl res.2.2.2.2.1.2)), (a_t_trial_routes, .inr (1, [.int res.2.2.2.2.2.1.1, .int res.2.2.2.2.2.1.2.1, .ref a_t_trial_routes_cells, .int res.2.2.2.2.2.1.2.2])), (a_t_now_routes, .inr (1, [.int s_t_now_routes.1, .int s_t_now_routes.2.1, .ref a_t_now_routes_cells, .int s_t_now_routes.2.2])), (a_t_now_routes_cells, .inl (cI, s_t_now_routes_cells.1, .inl s_t_now_routes_cells.2)), (a_t_trial_routes_cells, .inl (cI, res.2.2.2.2.2.2.1, .inl res.2.2.2.2.2.2.2)), (a_t_papers, .inr (1, [.int s_t_papers.1, .int s_t_papers.2.1, .ref a_t_papers_cells, .int s_t_papers.2.2])), (a_t_papers_cells, .inl (cI, s_t_papers_cells.1, .inl s_t_papers_cells.2))] [.ref a_t, .int v1, .long v2] (some (.int res.1)) := by
  refine Mu.ofI (by decide) (Nat.le_of_ble_eq_true rfl) [(0, .ref a_t), (1, .int v1), (2, .long v2)] rfl ?_
  intro p e s m args below meth c ls Q A hx hb hml hown hU hE hP hD hS hA rt hl
  have hown : s.vm.findClass RX3 = some m.cls := hown
  unfold mX3_judge at hM
  refine lv_iload_n hx hb dX3_judge_0 rfl (lv_at hl 1 rfl) ?_
  refine lv_iconst (v := (1 : Int32)) hx hb dX3_judge_1 (by decide) ?_
  refine lv_icmp_lt (tgt := 25) hx hb dX3_judge_2 (by decide) (fun c2 => ?_) (fun c2 => ?_)
  · have hM := ite_t c2 hM
    refine lv_bipush (v := (-2 : Int32)) hx hb dX3_judge_25 (by decide) ?_
    cases hM
    exact rt _ _ _ _ _ hP hS dX3_judge_27 rfl
  · have hM := ite_f c2 hM
    refine lv_iload_n hx hb dX3_judge_5 rfl (lv_at hl 1 rfl) ?_
    refine lv_iconst (v := (4 : Int32)) hx hb dX3_judge_6 (by decide) ?_
    refine lv_icmp_gt (tgt := 25) hx hb dX3_judge_7 (by decide) (fun c7 => ?_) (fun c7 => ?_)
    · have hM := ite_t c7 hM
      refine lv_bipush (v := (-2 : Int32)) hx hb dX3_judge_25 (by decide) ?_
      cases hM
      exact rt _ _ _ _ _ hP hS dX3_judge_27 rfl
    · have hM := ite_f c7 hM
      refine lv_lload_n hx hb dX3_judge_10 rfl (lv_at hl 2 rfl) ?_
      refine lv_lconst (v := (0 : Int64)) hx hb dX3_judge_11 (by decide) ?_
      refine W.lcmp hx hb dX3_judge_12 ?_
      refine lv_if_lt (tgt := 25) hx hb dX3_judge_13 (by decide) (fun c13 => ?_) (fun c13 => ?_)
      · have hM := ite_t c13 hM
        refine lv_bipush (v := (-2 : Int32)) hx hb dX3_judge_25 (by decide) ?_
        cases hM
        exact rt _ _ _ _ _ hP hS dX3_judge_27 rfl
      · have hM := ite_f c13 hM
        refine lv_aload_n hx hb dX3_judge_16 rfl (lv_at hl 0 rfl) ?_
        refine lv_iload_n hx hb dX3_judge_17 rfl (lv_at hl 1 rfl) ?_
        refine lv_lload_n hx hb dX3_judge_18 rfl (lv_at hl 2 rfl) ?_
        obtain ⟨x19, h19, hM⟩ := bind_e hM
        refine muV (As := [.int v1, .long v2]) (rest := []) (st2 := [.int (b2i x19.1)]) (nw := [(a_t, .inr (3, [.ref a_t_papers, .ref a_t_now, .ref a_t_trial, .ref a_t_firstSlot, .ref a_t_secondSlot, .ref a_t_acts, .ref a_t_seen, .ref a_t_text, .ref a_t_doings, .int s_t.1, .long s_t.2])), (a_t_doings, .inl (cI, 4, .inl x19.2)), (a_t_trial, .inr (0, [.ref a_t_papers, .ref a_t_trial_grants, .ref a_t_trial_routes, .int s_t_trial.1, .int s_t_trial.2.1, .int s_t_trial.2.2])), (a_t_now, .inr (0, [.ref a_t_papers, .ref a_t_now_grants, .ref a_t_now_routes, .int s_t_now.1, .int s_t_now.2.1, .int s_t_now.2.2])), (a_t_trial_grants, .inr (1, [.int s_t_trial_grants.1, .int s_t_trial_grants.2.1, .ref a_t_trial_grants_cells, .int s_t_trial_grants.2.2])), (a_t_now_grants, .inr (1, [.int s_t_now_grants.1, .int s_t_now_grants.2.1, .ref a_t_now_grants_cells, .int s_t_now_grants.2.2])), (a_t_now_grants_cells, .inl (cI, s_t_now_grants_cells.1, .inl s_t_now_grants_cells.2)), (a_t_trial_grants_cells, .inl (cI, s_t_trial_grants_cells.1, .inl s_t_trial_grants_cells.2)), (a_t_trial_routes, .inr (1, [.int s_t_trial_routes.1, .int s_t_trial_routes.2.1, .ref a_t_trial_routes_cells, .int s_t_trial_routes.2.2])), (a_t_now_routes, .inr (1, [.int s_t_now_routes.1, .int s_t_now_routes.2.1, .ref a_t_now_routes_cells, .int s_t_now_routes.2.2])), (a_t_now_routes_cells, .inl (cI, s_t_now_routes_cells.1, .inl s_t_now_routes_cells.2)), (a_t_trial_routes_cells, .inl (cI, s_t_trial_routes_cells.1, .inl s_t_trial_routes_cells.2)), (a_t_papers, .inr (1, [.int s_t_papers.1, .int s_t_papers.2.1, .ref a_t_papers_cells, .int s_t_papers.2.2])), (a_t_papers_cells, .inl (cI, s_t_papers_cells.1, .inl s_t_papers_cells.2))]) ⟨hx, hb, hml, hown, hU⟩ hE (okX3_splitDoings a_t a_t_papers a_t_now a_t_trial a_t_firstSlot a_t_secondSlot a_t_acts a_t_seen a_t_text a_t_doings s_t s_t_doings v1 v2 x19 h19) lk_X3_172 hP hD hS hA [0, 1] rfl rfl rfl rfl rfl rfl hl.1 rfl (Nat.le_of_ble_eq_true rfl) ⟨Nat.le_of_ble_eq_true rfl, Nat.le_of_ble_eq_true rfl⟩ dX3_judge_19 ⟨Nat.le_refl _, Nat.le_refl _⟩ rfl rfl rfl rfl (fun H locs hP hD hS => ?_)
        refine lv_if_ne (tgt := 28) hx hb dX3_judge_22 (by decide) (fun c22 => ?_) (fun c22 => ?_)
        · have hM := ite_t (b2i_ne0 c22) hM
          refine lv_aload_n hx hb dX3_judge_28 rfl (lv_at hl 0 rfl) ?_
          refine va_get (D := (dC, dI)) (ci := 3) (v := .ref a_t_trial) (C := RX3) (T := TX3) (N := 11) hx hb hU inlX3 hown hE.1 hP 0 rfl rfl 2 (by decide) (hU _ u_1_21) (fun _ h9 => h9) rfl dX3_judge_29 ?_
          refine lv_aload_n hx hb dX3_judge_32 rfl (lv_at hl 0 rfl) ?_
          refine va_get (D := (dC, dI)) (ci := 3) (v := .ref a_t_now) (C := RX3) (T := TX3) (N := 11) hx hb hU inlX3 hown hE.1 hP 0 rfl rfl 1 (by decide) (hU _ u_1_20) (fun _ h9 => h9) rfl dX3_judge_33 ?_
          obtain ⟨x36, h36, hM⟩ := bind_e hM
          refine muV (As := [.ref a_t_now]) (rest := []) (st2 := []) (nw := [(a_t, .inr (3, [.ref a_t_papers, .ref a_t_now, .ref a_t_trial, .ref a_t_firstSlot, .ref a_t_secondSlot, .ref a_t_acts, .ref a_t_seen, .ref a_t_text, .ref a_t_doings, .int s_t.1, .long s_t.2])), (a_t_doings, .inl (cI, 4, .inl x19.2)), (a_t_trial, .inr (0, [.ref a_t_papers, .ref a_t_trial_grants, .ref a_t_trial_routes, .int x36.1.1, .int x36.1.2.1, .int x36.1.2.2])), (a_t_now, .inr (0, [.ref a_t_papers, .ref a_t_now_grants, .ref a_t_now_routes, .int s_t_now.1, .int s_t_now.2.1, .int s_t_now.2.2])), (a_t_trial_grants, .inr (1, [.int x36.2.1.1, .int x36.2.1.2.1, .ref a_t_trial_grants_cells, .int x36.2.1.2.2])), (a_t_now_grants, .inr (1, [.int s_t_now_grants.1, .int s_t_now_grants.2.1, .ref a_t_now_grants_cells, .int s_t_now_grants.2.2])), (a_t_now_grants_cells, .inl (cI, s_t_now_grants_cells.1, .inl s_t_now_grants_cells.2)), (a_t_trial_grants_cells, .inl (cI, x36.2.2.1.1, .inl x36.2.2.1.2)), (a_t_trial_routes, .inr (1, [.int x36.2.2.2.1.1, .int x36.2.2.2.1.2.1, .ref a_t_trial_routes_cells, .int x36.2.2.2.1.2.2])), (a_t_now_routes, .inr (1, [.int s_t_now_routes.1, .int s_t_now_routes.2.1, .ref a_t_now_routes_cells, .int s_t_now_routes.2.2])), (a_t_now_routes_cells, .inl (cI, s_t_now_routes_cells.1, .inl s_t_now_routes_cells.2)), (a_t_trial_routes_cells, .inl (cI, x36.2.2.2.2.1, .inl x36.2.2.2.2.2)), (a_t_papers, .inr (1, [.int s_t_papers.1, .int s_t_papers.2.1, .ref a_t_papers_cells, .int s_t_papers.2.2])), (a_t_papers_cells, .inl (cI, s_t_papers_cells.1, .inl s_t_papers_cells.2))]) ⟨hx, hb, hml, hown, hU⟩ hE (okX0_copyFrom a_t_trial a_t_papers a_t_trial_grants a_t_trial_routes a_t_now a_t_papers a_t_now_grants a_t_now_routes a_t_trial_grants_cells a_t_now_grants_cells a_t_trial_routes_cells a_t_now_routes_cells s_t_trial s_t_now s_t_trial_grants s_t_now_grants s_t_now_grants_cells s_t_trial_grants_cells s_t_trial_routes s_t_now_routes s_t_now_routes_cells s_t_trial_routes_cells x36 h36) lk_X3_163 hP hD hS hA [2, 3, 4, 5, 6, 7, 8, 9, 10, 11] rfl rfl rfl rfl rfl rfl hl.1 rfl (Nat.le_of_ble_eq_true rfl) ⟨Nat.le_of_ble_eq_true rfl, Nat.le_of_ble_eq_true rfl⟩ dX3_judge_36 ⟨Nat.le_refl _, Nat.le_refl _⟩ rfl rfl rfl rfl (fun H locs hP hD hS => ?_)
          refine lv_iconst (v := (0 : Int32)) hx hb dX3_judge_39 (by decide) ?_
          refine lv_istore (lv' := [(4, .int (0 : Int32)), (0, .ref a_t), (1, .int v1), (2, .long v2)]) hx hb dX3_judge_40 hl (by decide) rfl (fun ls hl => ?_)
          have w_42 : ∀ (n : Nat) (v4_42 : Int32) (s_t_trial_42 : Int32 × Int32 × Int32) (s_t_trial_routes_42 : Int32 × Int32 × Int32) (s_t_trial_routes_cells_42 : Ar), mX3_judge_b42 x19.2 s_t_now x36.2.1 s_t_now_grants s_t_now_grants_cells x36.2.2.1 s_t_now_routes s_t_now_routes_cells s_t_papers s_t_papers_cells v1 n v4_42 s_t_trial_42 s_t_trial_routes_42 s_t_trial_routes_cells_42 = some res → ∀ (ls : Array Slot) (H : Heap) (locs : List Loc), va_P (dC, dI) vwCl [(a_t, .inr (3, [.ref a_t_papers, .ref a_t_now, .ref a_t_trial, .ref a_t_firstSlot, .ref a_t_secondSlot, .ref a_t_acts, .ref a_t_seen, .ref a_t_text, .ref a_t_doings, .int s_t.1, .long s_t.2])), (a_t_doings, .inl (cI, 4, .inl x19.2)), (a_t_trial, .inr (0, [.ref a_t_papers, .ref a_t_trial_grants, .ref a_t_trial_routes, .int s_t_trial_42.1, .int s_t_trial_42.2.1, .int s_t_trial_42.2.2])), (a_t_now, .inr (0, [.ref a_t_papers, .ref a_t_now_grants, .ref a_t_now_routes, .int s_t_now.1, .int s_t_now.2.1, .int s_t_now.2.2])), (a_t_trial_grants, .inr (1, [.int x36.2.1.1, .int x36.2.1.2.1, .ref a_t_trial_grants_cells, .int x36.2.1.2.2])), (a_t_now_grants, .inr (1, [.int s_t_now_grants.1, .int s_t_now_grants.2.1, .ref a_t_now_grants_cells, .int s_t_now_grants.2.2])), (a_t_now_grants_cells, .inl (cI, s_t_now_grants_cells.1, .inl s_t_now_grants_cells.2)), (a_t_trial_grants_cells, .inl (cI, x36.2.2.1.1, .inl x36.2.2.1.2)), (a_t_trial_routes, .inr (1, [.int s_t_trial_routes_42.1, .int s_t_trial_routes_42.2.1, .ref a_t_trial_routes_cells, .int s_t_trial_routes_42.2.2])), (a_t_now_routes, .inr (1, [.int s_t_now_routes.1, .int s_t_now_routes.2.1, .ref a_t_now_routes_cells, .int s_t_now_routes.2.2])), (a_t_now_routes_cells, .inl (cI, s_t_now_routes_cells.1, .inl s_t_now_routes_cells.2)), (a_t_trial_routes_cells, .inl (cI, s_t_trial_routes_cells_42.1, .inl s_t_trial_routes_cells_42.2)), (a_t_papers, .inr (1, [.int s_t_papers.1, .int s_t_papers.2.1, .ref a_t_papers_cells, .int s_t_papers.2.2])), (a_t_papers_cells, .inl (cI, s_t_papers_cells.1, .inl s_t_papers_cells.2))] H → va_D A [(a_t, .inr (3, [.ref a_t_papers, .ref a_t_now, .ref a_t_trial, .ref a_t_firstSlot, .ref a_t_secondSlot, .ref a_t_acts, .ref a_t_seen, .ref a_t_text, .ref a_t_doings, .int s_t.1, .long s_t.2])), (a_t_doings, .inl (cI, 4, .inl x19.2)), (a_t_trial, .inr (0, [.ref a_t_papers, .ref a_t_trial_grants, .ref a_t_trial_routes, .int s_t_trial_42.1, .int s_t_trial_42.2.1, .int s_t_trial_42.2.2])), (a_t_now, .inr (0, [.ref a_t_papers, .ref a_t_now_grants, .ref a_t_now_routes, .int s_t_now.1, .int s_t_now.2.1, .int s_t_now.2.2])), (a_t_trial_grants, .inr (1, [.int x36.2.1.1, .int x36.2.1.2.1, .ref a_t_trial_grants_cells, .int x36.2.1.2.2])), (a_t_now_grants, .inr (1, [.int s_t_now_grants.1, .int s_t_now_grants.2.1, .ref a_t_now_grants_cells, .int s_t_now_grants.2.2])), (a_t_now_grants_cells, .inl (cI, s_t_now_grants_cells.1, .inl s_t_now_grants_cells.2)), (a_t_trial_grants_cells, .inl (cI, x36.2.2.1.1, .inl x36.2.2.1.2)), (a_t_trial_routes, .inr (1, [.int s_t_trial_routes_42.1, .int s_t_trial_routes_42.2.1, .ref a_t_trial_routes_cells, .int s_t_trial_routes_42.2.2])), (a_t_now_routes, .inr (1, [.int s_t_now_routes.1, .int s_t_now_routes.2.1, .ref a_t_now_routes_cells, .int s_t_now_routes.2.2])), (a_t_now_routes_cells, .inl (cI, s_t_now_routes_cells.1, .inl s_t_now_routes_cells.2)), (a_t_trial_routes_cells, .inl (cI, s_t_trial_routes_cells_42.1, .inl s_t_trial_routes_cells_42.2)), (a_t_papers, .inr (1, [.int s_t_papers.1, .int s_t_papers.2.1, .ref a_t_papers_cells, .int s_t_papers.2.2])), (a_t_papers_cells, .inl (cI, s_t_papers_cells.1, .inl s_t_papers_cells.2))] → va_S A s.heap H locs → lv_has ls 5 [(0, .ref a_t), (1, .int v1), (4, .int v4_42)] → W p l e (RM 6 147) s m args below meth c H locs 0 0 Q (F0 m 42 ls []) := by
            intro n
            induction n with
            | zero =>
              intro v4_42 s_t_trial_42 s_t_trial_routes_42 s_t_trial_routes_cells_42 hM
              rw [mX3_judge_b42] at hM
              cases hM
            | succ n_42 ih_42 =>
              intro v4_42 s_t_trial_42 s_t_trial_routes_42 s_t_trial_routes_cells_42 hM ls H locs hP hD hS hl
              rw [mX3_judge_b42] at hM
              refine lv_iload hx hb dX3_judge_42 (lv_at hl 2 rfl) ?_
              refine lv_iload_n hx hb dX3_judge_44 rfl (lv_at hl 1 rfl) ?_
              refine lv_icmp_ge (tgt := 80) hx hb dX3_judge_45 (by decide) (fun c45 => ?_) (fun c45 => ?_)
              · have hM := ite_t c45 hM
                refine lv_bipush (v := (-9 : Int32)) hx hb dX3_judge_80 (by decide) ?_
                cases hM
                exact rt _ _ _ _ _ hP hS dX3_judge_82 rfl
              · have hM := ite_f c45 hM
                refine lv_iload hx hb dX3_judge_48 (lv_at hl 2 rfl) ?_
                refine lv_iconst (v := (4 : Int32)) hx hb dX3_judge_50 (by decide) ?_
                refine lv_icmp_ge (tgt := 80) hx hb dX3_judge_51 (by decide) (fun c51 => ?_) (fun c51 => ?_)
                · have hM := ite_t c51 hM
                  refine lv_bipush (v := (-9 : Int32)) hx hb dX3_judge_80 (by decide) ?_
                  cases hM
                  exact rt _ _ _ _ _ hP hS dX3_judge_82 rfl
                · have hM := ite_f c51 hM
                  refine lv_aload_n hx hb dX3_judge_54 rfl (lv_at hl 0 rfl) ?_
                  refine va_get (D := (dC, dI)) (ci := 3) (v := .ref a_t_trial) (C := RX3) (T := TX3) (N := 11) hx hb hU inlX3 hown hE.1 hP 0 rfl rfl 2 (by decide) (hU _ u_1_21) (fun _ h9 => h9) rfl dX3_judge_55 ?_
                  refine lv_aload_n hx hb dX3_judge_58 rfl (lv_at hl 0 rfl) ?_
                  refine va_get (D := (dC, dI)) (ci := 3) (v := .ref a_t_doings) (C := RX3) (T := TX3) (N := 11) hx hb hU inlX3 hown hE.1 hP 0 rfl rfl 8 (by decide) (hU _ u_2_7) (fun _ h9 => h9) rfl dX3_judge_59 ?_
                  refine lv_iload hx hb dX3_judge_62 (lv_at hl 2 rfl) ?_
                  obtain ⟨g64, hM⟩ := rd_e hM
                  refine va_iald hx hb hE.1 hP 1 0 rfl rfl g64 dX3_judge_64 ?_
                  obtain ⟨x65, h65, hM⟩ := bind_e hM
                  refine muV (As := [.int (x19.2 v4_42.toNatClampNeg)]) (rest := []) (st2 := [.int (b2i x65.1)]) (nw := [(a_t, .inr (3, [.ref a_t_papers, .ref a_t_now, .ref a_t_trial, .ref a_t_firstSlot, .ref a_t_secondSlot, .ref a_t_acts, .ref a_t_seen, .ref a_t_text, .ref a_t_doings, .int s_t.1, .long s_t.2])), (a_t_doings, .inl (cI, 4, .inl x19.2)), (a_t_trial, .inr (0, [.ref a_t_papers, .ref a_t_trial_grants, .ref a_t_trial_routes, .int x65.2.1.1, .int x65.2.1.2.1, .int x65.2.1.2.2])), (a_t_now, .inr (0, [.ref a_t_papers, .ref a_t_now_grants, .ref a_t_now_routes, .int s_t_now.1, .int s_t_now.2.1, .int s_t_now.2.2])), (a_t_trial_grants, .inr (1, [.int x36.2.1.1, .int x36.2.1.2.1, .ref a_t_trial_grants_cells, .int x36.2.1.2.2])), (a_t_now_grants, .inr (1, [.int s_t_now_grants.1, .int s_t_now_grants.2.1, .ref a_t_now_grants_cells, .int s_t_now_grants.2.2])), (a_t_now_grants_cells, .inl (cI, s_t_now_grants_cells.1, .inl s_t_now_grants_cells.2)), (a_t_trial_grants_cells, .inl (cI, x36.2.2.1.1, .inl x36.2.2.1.2)), (a_t_trial_routes, .inr (1, [.int x65.2.2.1.1, .int x65.2.2.1.2.1, .ref a_t_trial_routes_cells, .int x65.2.2.1.2.2])), (a_t_now_routes, .inr (1, [.int s_t_now_routes.1, .int s_t_now_routes.2.1, .ref a_t_now_routes_cells, .int s_t_now_routes.2.2])), (a_t_now_routes_cells, .inl (cI, s_t_now_routes_cells.1, .inl s_t_now_routes_cells.2)), (a_t_trial_routes_cells, .inl (cI, x65.2.2.2.1, .inl x65.2.2.2.2)), (a_t_papers, .inr (1, [.int s_t_papers.1, .int s_t_papers.2.1, .ref a_t_papers_cells, .int s_t_papers.2.2])), (a_t_papers_cells, .inl (cI, s_t_papers_cells.1, .inl s_t_papers_cells.2))]) ⟨hx, hb, hml, hown, hU⟩ hE (okX0_canBe a_t_trial a_t_papers a_t_trial_grants a_t_trial_routes a_t_papers_cells a_t_trial_routes_cells a_t_trial_grants_cells s_t_trial_42 s_t_papers s_t_trial_routes_42 s_t_papers_cells x36.2.1 x36.2.2.1 s_t_trial_routes_cells_42 (x19.2 v4_42.toNatClampNeg) x65 h65) lk_X3_176 hP hD hS hA [2, 12, 8, 13, 4, 7, 11] rfl rfl rfl rfl rfl rfl hl.1 rfl (Nat.le_of_ble_eq_true rfl) ⟨Nat.le_of_ble_eq_true rfl, Nat.le_of_ble_eq_true rfl⟩ dX3_judge_65 ⟨Nat.le_refl _, Nat.le_refl _⟩ rfl rfl rfl rfl (fun H locs hP hD hS => ?_)
                  refine lv_if_ne (tgt := 74) hx hb dX3_judge_68 (by decide) (fun c68 => ?_) (fun c68 => ?_)
                  · have hM := ite_t (b2i_ne0 c68) hM
                    refine lv_iinc (v := (v4_42 + (1 : Int32))) (lv' := [(4, .int (v4_42 + (1 : Int32))), (0, .ref a_t), (1, .int v1)]) hx hb dX3_judge_74 hl (k := 2) rfl rfl (by decide) rfl (fun ls hl => ?_)
                    refine lv_goto (tgt := 42) hx hb dX3_judge_77 (by decide) ?_
                    exact ih_42 (v4_42 + (1 : Int32)) x65.2.1 x65.2.2.1 x65.2.2.2 hM ls _ _ hP hD hS (lv_sub hl [1, 2, 0] rfl)
                  · have hM := ite_f (b2i_eq0 c68) hM
                    refine lv_iload hx hb dX3_judge_71 (lv_at hl 2 rfl) ?_
                    cases hM
                    exact rt _ _ _ _ _ hP hS dX3_judge_73 rfl
          exact w_42 FU (0 : Int32) x36.1 x36.2.2.2.1 x36.2.2.2.2 hM ls _ _ hP hD hS (lv_sub hl [1, 2, 0] rfl)
        · have hM := ite_f (b2i_eq0 c22) hM
          refine lv_bipush (v := (-2 : Int32)) hx hb dX3_judge_25 (by decide) ?_
          cases hM
          exact rt _ _ _ _ _ hP hS dX3_judge_27 rfl
def mX3_lost (s_t_papers : Int32 × Int32 × Int32) (s_t_now : Int32 × Int32 × Int32) (s_t_papers_cells : Ar) (s_t_now_grants : Int32 × Int32 × Int32) (s_t_now_grants_cells : Ar) (s_t_now_routes : Int32 × Int32 × Int32) (s_t_now_routes_cells : Ar) (v1 : Int32) : Option (Int32) := (if v1 = 0 then some ((-1 : Int32)) else (mX1_has s_t_papers v1).bind (fun x9 => (if x9 = true then (mX0_standing s_t_now s_t_papers s_t_papers_cells (s_t_now.1 ||| ((1 : Int32) <<< (v1 &&& 31)))).bind (fun x36 => (mX0_counting s_t_now s_t_now_grants s_t_now_grants_cells s_t_papers s_t_papers_cells x36).bind (fun x39 => (mX0_countingNow s_t_now s_t_papers s_t_papers_cells s_t_now_grants s_t_now_grants_cells).bind (fun x52 => (mX0_routesThatAre s_t_now_routes s_t_now_routes_cells s_t_now_grants s_t_now_grants_cells (2 : Int32) x52).bind (fun x55 => (mX0_routesThatAre s_t_now_routes s_t_now_routes_cells s_t_now_grants s_t_now_grants_cells (2 : Int32) x39).bind (fun x64 => some ((x55 &&& (x64 ^^^ (-1 : Int32))))))))) else some ((-1 : Int32)))))
set_option maxHeartbeats 4000000 in
set_option maxRecDepth 100000 in
theorem okX3_lost {l : Launch} {dC : Nat → ClassId} {dI : Nat → Nat → Nat} {cI cC cZ : ClassId} (a_t a_t_papers a_t_now a_t_trial a_t_firstSlot a_t_secondSlot a_t_acts a_t_seen a_t_text a_t_doings a_t_papers_cells a_t_now_grants a_t_now_routes a_t_now_grants_cells a_t_now_routes_cells : Nat) (s_t : Int32 × Int64) (s_t_papers : Int32 × Int32 × Int32) (s_t_now : Int32 × Int32 × Int32) (s_t_papers_cells : Ar) (s_t_now_grants : Int32 × Int32 × Int32) (s_t_now_grants_cells : Ar) (s_t_now_routes : Int32 × Int32 × Int32) (s_t_now_routes_cells : Ar) (v1 : Int32) (res : Int32) (hM : mX3_lost s_t_papers s_t_now s_t_papers_cells s_t_now_grants s_t_now_grants_cells s_t_now_routes s_t_now_routes_cells v1 = some res) : Rd l yX3_lost cX3_lost 3 (some .int) 3 73 (dC, dI) cI cC cZ [(a_t, .inr (3, [.ref a_t_papers, .ref a_t_now, .ref a_t_trial, .ref a_t_firstSlot, .ref a_t_secondSlot, .ref a_t_acts, .ref a_t_seen, .ref a_t_text, .ref a_t_doings, .int s_t.1, .long s_t.2])), (a_t_papers, .inr (1, [.int s_t_papers.1, .int s_t_papers.2.1, .ref a_t_papers_cells, .int s_t_papers.2.2])), (a_t_now, .inr (0, [.ref a_t_papers, .ref a_t_now_grants, .ref a_t_now_routes, .int s_t_now.1, .int s_t_now.2.1, .int s_t_now.2.2])), (a_t_papers_cells, .inl (cI, s_t_papers_cells.1, .inl s_t_papers_cells.2)), (a_t_now_grants, .inr (1, [.int s_t_now_grants.1, .int s_t_now_grants.2.1, .ref a_t_now_grants_cells, .int s_t_now_grants.2.2])), (a_t_now_grants_cells, .inl (cI, s_t_now_grants_cells.1, .inl s_t_now_grants_cells.2)), (a_t_now_routes, .inr (1, [.int s_t_now_routes.1, .int s_t_now_routes.2.1, .ref a_t_now_routes_cells, .int s_t_now_routes.2.2])), (a_t_now_routes_cells, .inl (cI, s_t_now_routes_cells.1, .inl s_t_now_routes_cells.2))] [.ref a_t, .int v1] (some (.int res)) := by
  refine Rd.ofI (by decide) (Nat.le_of_ble_eq_true rfl) [(0, .ref a_t), (1, .int v1)] rfl ?_
  intro p e s m args below meth c ls Q hx hb hml hown hU hE hP rt hl
  have hown : s.vm.findClass RX3 = some m.cls := hown
  unfold mX3_lost at hM
  refine lv_iload_n hx hb dX3_lost_0 rfl (lv_at hl 1 rfl) ?_
  refine lv_if_eq (tgt := 15) hx hb dX3_lost_1 (by decide) (fun c1 => ?_) (fun c1 => ?_)
  · have hM := ite_t c1 hM
    refine lv_iconst (v := (-1 : Int32)) hx hb dX3_lost_15 (by decide) ?_
    cases hM
    exact rt _ _ _ dX3_lost_16 rfl
  · have hM := ite_f c1 hM
    refine lv_aload_n hx hb dX3_lost_4 rfl (lv_at hl 0 rfl) ?_
    refine va_get (D := (dC, dI)) (ci := 3) (v := .ref a_t_papers) (C := RX3) (T := TX3) (N := 11) hx hb hU inlX3 hown hE.1 hP 0 rfl rfl 0 (by decide) (hU _ u_1_16) (fun _ h9 => h9) rfl dX3_lost_5 ?_
    refine lv_iload_n hx hb dX3_lost_8 rfl (lv_at hl 1 rfl) ?_
    obtain ⟨x9, h9, hM⟩ := bind_e hM
    refine rdV (As := [.int v1]) (rest := []) (st2 := [.int (b2i x9)]) ⟨hx, hb, hml, hown, hU⟩ hE (okX1_has a_t_papers a_t_papers_cells s_t_papers v1 x9 h9) lk_X3_114 (hP.sub [1] rfl) rfl rfl rfl hl.1 rfl (Nat.le_of_ble_eq_true rfl) ⟨Nat.le_of_ble_eq_true rfl, Nat.le_of_ble_eq_true rfl⟩ dX3_lost_9 ⟨Nat.le_refl _, Nat.le_refl _⟩ rfl ?_
    refine lv_if_ne (tgt := 17) hx hb dX3_lost_12 (by decide) (fun c12 => ?_) (fun c12 => ?_)
    · have hM := ite_t (b2i_ne0 c12) hM
      refine lv_aload_n hx hb dX3_lost_17 rfl (lv_at hl 0 rfl) ?_
      refine va_get (D := (dC, dI)) (ci := 3) (v := .ref a_t_now) (C := RX3) (T := TX3) (N := 11) hx hb hU inlX3 hown hE.1 hP 0 rfl rfl 1 (by decide) (hU _ u_1_20) (fun _ h9 => h9) rfl dX3_lost_18 ?_
      refine lv_aload_n hx hb dX3_lost_21 rfl (lv_at hl 0 rfl) ?_
      refine va_get (D := (dC, dI)) (ci := 3) (v := .ref a_t_now) (C := RX3) (T := TX3) (N := 11) hx hb hU inlX3 hown hE.1 hP 0 rfl rfl 1 (by decide) (hU _ u_1_20) (fun _ h9 => h9) rfl dX3_lost_22 ?_
      refine lv_aload_n hx hb dX3_lost_25 rfl (lv_at hl 0 rfl) ?_
      refine va_get (D := (dC, dI)) (ci := 3) (v := .ref a_t_now) (C := RX3) (T := TX3) (N := 11) hx hb hU inlX3 hown hE.1 hP 0 rfl rfl 1 (by decide) (hU _ u_1_20) (fun _ h9 => h9) rfl dX3_lost_26 ?_
      refine va_get (D := (dC, dI)) (ci := 0) (v := .int s_t_now.1) (C := RX0) (T := TX0) (N := 6) hx hb hU inlX0 hown hE.1 hP 2 rfl rfl 3 (by decide) (hU _ u_11_21) (fun _ h9 => h9) rfl dX3_lost_29 ?_
      refine lv_iconst (v := (1 : Int32)) hx hb dX3_lost_32 (by decide) ?_
      refine lv_iload_n hx hb dX3_lost_33 rfl (lv_at hl 1 rfl) ?_
      refine lv_ishl hx hb dX3_lost_34 ?_
      refine lv_ior hx hb dX3_lost_35 ?_
      obtain ⟨x36, h36, hM⟩ := bind_e hM
      refine rdV (As := [.int (s_t_now.1 ||| ((1 : Int32) <<< (v1 &&& 31)))]) (rest := [.ref a_t_now]) (st2 := [.int x36, .ref a_t_now]) ⟨hx, hb, hml, hown, hU⟩ hE (okX0_standing a_t_now a_t_papers a_t_now_grants a_t_now_routes a_t_papers_cells s_t_now s_t_papers s_t_papers_cells (s_t_now.1 ||| ((1 : Int32) <<< (v1 &&& 31))) x36 h36) lk_X3_97 (hP.sub [2, 1, 3] rfl) rfl rfl rfl hl.1 rfl (Nat.le_of_ble_eq_true rfl) ⟨Nat.le_of_ble_eq_true rfl, Nat.le_of_ble_eq_true rfl⟩ dX3_lost_36 ⟨Nat.le_refl _, Nat.le_refl _⟩ rfl ?_
      obtain ⟨x39, h39, hM⟩ := bind_e hM
      refine rdV (As := [.int x36]) (rest := []) (st2 := [.int x39]) ⟨hx, hb, hml, hown, hU⟩ hE (okX0_counting a_t_now a_t_papers a_t_now_grants a_t_now_routes a_t_now_grants_cells a_t_papers_cells s_t_now s_t_now_grants s_t_now_grants_cells s_t_papers s_t_papers_cells x36 x39 h39) lk_X3_169 (hP.sub [2, 4, 5, 1, 3] rfl) rfl rfl rfl hl.1 rfl (Nat.le_of_ble_eq_true rfl) ⟨Nat.le_of_ble_eq_true rfl, Nat.le_of_ble_eq_true rfl⟩ dX3_lost_39 ⟨Nat.le_refl _, Nat.le_refl _⟩ rfl ?_
      refine lv_istore_n (lv' := [(2, .int x39), (0, .ref a_t), (1, .int v1)]) hx hb dX3_lost_42 rfl hl (by decide) rfl (fun ls hl => ?_)
      refine lv_aload_n hx hb dX3_lost_43 rfl (lv_at hl 1 rfl) ?_
      refine va_get (D := (dC, dI)) (ci := 3) (v := .ref a_t_now) (C := RX3) (T := TX3) (N := 11) hx hb hU inlX3 hown hE.1 hP 0 rfl rfl 1 (by decide) (hU _ u_1_20) (fun _ h9 => h9) rfl dX3_lost_44 ?_
      refine lv_iconst (v := (2 : Int32)) hx hb dX3_lost_47 (by decide) ?_
      refine lv_aload_n hx hb dX3_lost_48 rfl (lv_at hl 1 rfl) ?_
      refine va_get (D := (dC, dI)) (ci := 3) (v := .ref a_t_now) (C := RX3) (T := TX3) (N := 11) hx hb hU inlX3 hown hE.1 hP 0 rfl rfl 1 (by decide) (hU _ u_1_20) (fun _ h9 => h9) rfl dX3_lost_49 ?_
      obtain ⟨x52, h52, hM⟩ := bind_e hM
      refine rdV (As := []) (rest := [.int (2 : Int32), .ref a_t_now]) (st2 := [.int x52, .int (2 : Int32), .ref a_t_now]) ⟨hx, hb, hml, hown, hU⟩ hE (okX0_countingNow a_t_now a_t_papers a_t_now_grants a_t_now_routes a_t_papers_cells a_t_now_grants_cells s_t_now s_t_papers s_t_papers_cells s_t_now_grants s_t_now_grants_cells x52 h52) lk_X3_104 (hP.sub [2, 1, 3, 4, 5] rfl) rfl rfl rfl hl.1 rfl (Nat.le_of_ble_eq_true rfl) ⟨Nat.le_of_ble_eq_true rfl, Nat.le_of_ble_eq_true rfl⟩ dX3_lost_52 ⟨Nat.le_refl _, Nat.le_refl _⟩ rfl ?_
      obtain ⟨x55, h55, hM⟩ := bind_e hM
      refine rdV (As := [.int (2 : Int32), .int x52]) (rest := []) (st2 := [.int x55]) ⟨hx, hb, hml, hown, hU⟩ hE (okX0_routesThatAre a_t_now a_t_papers a_t_now_grants a_t_now_routes a_t_now_routes_cells a_t_now_grants_cells s_t_now s_t_now_routes s_t_now_routes_cells s_t_now_grants s_t_now_grants_cells (2 : Int32) x52 x55 h55) lk_X3_107 (hP.sub [2, 6, 7, 4, 5] rfl) rfl rfl rfl hl.1 rfl (Nat.le_of_ble_eq_true rfl) ⟨Nat.le_of_ble_eq_true rfl, Nat.le_of_ble_eq_true rfl⟩ dX3_lost_55 ⟨Nat.le_refl _, Nat.le_refl _⟩ rfl ?_
      refine lv_aload_n hx hb dX3_lost_58 rfl (lv_at hl 1 rfl) ?_
      refine va_get (D := (dC, dI)) (ci := 3) (v := .ref a_t_now) (C := RX3) (T := TX3) (N := 11) hx hb hU inlX3 hown hE.1 hP 0 rfl rfl 1 (by decide) (hU _ u_1_20) (fun _ h9 => h9) rfl dX3_lost_59 ?_
      refine lv_iconst (v := (2 : Int32)) hx hb dX3_lost_62 (by decide) ?_
      refine lv_iload_n hx hb dX3_lost_63 rfl (lv_at hl 0 rfl) ?_
      obtain ⟨x64, h64, hM⟩ := bind_e hM
      refine rdV (As := [.int (2 : Int32), .int x39]) (rest := [.int x55]) (st2 := [.int x64, .int x55]) ⟨hx, hb, hml, hown, hU⟩ hE (okX0_routesThatAre a_t_now a_t_papers a_t_now_grants a_t_now_routes a_t_now_routes_cells a_t_now_grants_cells s_t_now s_t_now_routes s_t_now_routes_cells s_t_now_grants s_t_now_grants_cells (2 : Int32) x39 x64 h64) lk_X3_107 (hP.sub [2, 6, 7, 4, 5] rfl) rfl rfl rfl hl.1 rfl (Nat.le_of_ble_eq_true rfl) ⟨Nat.le_of_ble_eq_true rfl, Nat.le_of_ble_eq_true rfl⟩ dX3_lost_64 ⟨Nat.le_refl _, Nat.le_refl _⟩ rfl ?_
      refine lv_iconst (v := (-1 : Int32)) hx hb dX3_lost_67 (by decide) ?_
      refine lv_ixor hx hb dX3_lost_68 ?_
      refine lv_iand hx hb dX3_lost_69 ?_
      cases hM
      exact rt _ _ _ dX3_lost_70 rfl
    · have hM := ite_f (b2i_eq0 c12) hM
      refine lv_iconst (v := (-1 : Int32)) hx hb dX3_lost_15 (by decide) ?_
      cases hM
      exact rt _ _ _ dX3_lost_16 rfl
def mX3_night (s_t_now : Int32 × Int32 × Int32) (s_t_acts : Int32 × Int32 × Int32) (s_t_acts_cells : Ar) : Option (Int32 × (Int32 × Int32 × Int32) × (Int32 × Int32 × Int32) × Ar) := (if s_t_now.2.2 < (9 : Int32) then (mX3_remember s_t_acts s_t_acts_cells (6 : Int32) (0 : Int32)).bind (fun x32 => some ((s_t_now.2.2 + (1 : Int32)), (s_t_now.1, s_t_now.2.1, (s_t_now.2.2 + (1 : Int32))), x32.2.1, x32.2.2)) else some ((-3 : Int32), s_t_now, s_t_acts, s_t_acts_cells))
set_option maxHeartbeats 4000000 in
set_option maxRecDepth 100000 in
theorem okX3_night {l : Launch} {dC : Nat → ClassId} {dI : Nat → Nat → Nat} {cI cC cZ : ClassId} (a_t a_t_papers a_t_now a_t_trial a_t_firstSlot a_t_secondSlot a_t_acts a_t_seen a_t_text a_t_doings a_t_now_grants a_t_now_routes a_t_acts_cells : Nat) (s_t : Int32 × Int64) (s_t_now : Int32 × Int32 × Int32) (s_t_acts : Int32 × Int32 × Int32) (s_t_acts_cells : Ar) (res : Int32 × (Int32 × Int32 × Int32) × (Int32 × Int32 × Int32) × Ar) (hM : mX3_night s_t_now s_t_acts s_t_acts_cells = some res) : Mu l yX3_night cX3_night 1 (some .int) 3 84 (dC, dI) cI cC cZ [(a_t, .inr (3, [.ref a_t_papers, .ref a_t_now, .ref a_t_trial, .ref a_t_firstSlot, .ref a_t_secondSlot, .ref a_t_acts, .ref a_t_seen, .ref a_t_text, .ref a_t_doings, .int s_t.1, .long s_t.2])), (a_t_now, .inr (0, [.ref a_t_papers, .ref a_t_now_grants, .ref a_t_now_routes, .int s_t_now.1, .int s_t_now.2.1, .int s_t_now.2.2])), (a_t_acts, .inr (1, [.int s_t_acts.1, .int s_t_acts.2.1, .ref a_t_acts_cells, .int s_t_acts.2.2])), (a_t_acts_cells, .inl (cI, s_t_acts_cells.1, .inl s_t_acts_cells.2))] [(a_t, .inr (3, [.ref a_t_papers, .ref a_t_now, .ref a_t_trial, .ref a_t_firstSlot, .ref a_t_secondSlot, .ref a_t_acts, .ref a_t_seen, .ref a_t_text, .ref a_t_doings, .int s_t.1, .long s_t.2])), (a_t_now, .inr (0, [.ref a_t_papers, .ref a_t_now_grants, .ref a_t_now_routes, .int res.2.1.1, .int res.2.1.2.1, .int res.2.1.2.2])), (a_t_acts, .inr (1, [.int res.2.2.1.1, .int res.2.2.1.2.1, .ref a_t_acts_cells, .int res.2.2.1.2.2])), (a_t_acts_cells, .inl (cI, res.2.2.2.1, .inl res.2.2.2.2))] [.ref a_t] (some (.int res.1)) := by
  refine Mu.ofI (by decide) (Nat.le_of_ble_eq_true rfl) [(0, .ref a_t)] rfl ?_
  intro p e s m args below meth c ls Q A hx hb hml hown hU hE hP hD hS hA rt hl
  have hown : s.vm.findClass RX3 = some m.cls := hown
  unfold mX3_night at hM
  refine lv_aload_n hx hb dX3_night_0 rfl (lv_at hl 0 rfl) ?_
  refine va_get (D := (dC, dI)) (ci := 3) (v := .ref a_t_now) (C := RX3) (T := TX3) (N := 11) hx hb hU inlX3 hown hE.1 hP 0 rfl rfl 1 (by decide) (hU _ u_1_20) (fun _ h9 => h9) rfl dX3_night_1 ?_
  refine va_get (D := (dC, dI)) (ci := 0) (v := .int s_t_now.2.2) (C := RX0) (T := TX0) (N := 6) hx hb hU inlX0 hown hE.1 hP 1 rfl rfl 5 (by decide) (hU _ u_11_20) (fun _ h9 => h9) rfl dX3_night_4 ?_
  refine lv_bipush (v := (9 : Int32)) hx hb dX3_night_7 (by decide) ?_
  refine lv_icmp_lt (tgt := 15) hx hb dX3_night_9 (by decide) (fun c9 => ?_) (fun c9 => ?_)
  · have hM := ite_t c9 hM
    refine lv_aload_n hx hb dX3_night_15 rfl (lv_at hl 0 rfl) ?_
    refine va_get (D := (dC, dI)) (ci := 3) (v := .ref a_t_now) (C := RX3) (T := TX3) (N := 11) hx hb hU inlX3 hown hE.1 hP 0 rfl rfl 1 (by decide) (hU _ u_1_20) (fun _ h9 => h9) rfl dX3_night_16 ?_
    refine lv_dup hx hb dX3_night_19 rfl ?_
    refine va_get (D := (dC, dI)) (ci := 0) (v := .int s_t_now.2.2) (C := RX0) (T := TX0) (N := 6) hx hb hU inlX0 hown hE.1 hP 1 rfl rfl 5 (by decide) (hU _ u_11_20) (fun _ h9 => h9) rfl dX3_night_20 ?_
    refine lv_iconst (v := (1 : Int32)) hx hb dX3_night_23 (by decide) ?_
    refine lv_iadd hx hb dX3_night_24 ?_
    refine va_put (D := (dC, dI)) (ci := 0) (v := .int (s_t_now.2.2 + (1 : Int32))) (ty := .int) (C := RX0) (T := TX0) (N := 6) hx hb hU inlX0 tyX0 tyX0_ok nmX0 hown hE.1 hP hD hS 1 rfl rfl 5 (by decide) (hU _ u_11_20) (fun _ h9 => h9) rfl (tyX0_ok 5 (by decide)) rfl rfl (Nat.le_of_ble_eq_true rfl) dX3_night_25 (fun H locs hP hD hS => ?_)
    have hP : va_P (dC, dI) vwCl [(a_t, .inr (3, [.ref a_t_papers, .ref a_t_now, .ref a_t_trial, .ref a_t_firstSlot, .ref a_t_secondSlot, .ref a_t_acts, .ref a_t_seen, .ref a_t_text, .ref a_t_doings, .int s_t.1, .long s_t.2])), (a_t_now, .inr (0, [.ref a_t_papers, .ref a_t_now_grants, .ref a_t_now_routes, .int s_t_now.1, .int s_t_now.2.1, .int (s_t_now.2.2 + (1 : Int32))])), (a_t_acts, .inr (1, [.int s_t_acts.1, .int s_t_acts.2.1, .ref a_t_acts_cells, .int s_t_acts.2.2])), (a_t_acts_cells, .inl (cI, s_t_acts_cells.1, .inl s_t_acts_cells.2))] H := hP
    have hD : va_D A [(a_t, .inr (3, [.ref a_t_papers, .ref a_t_now, .ref a_t_trial, .ref a_t_firstSlot, .ref a_t_secondSlot, .ref a_t_acts, .ref a_t_seen, .ref a_t_text, .ref a_t_doings, .int s_t.1, .long s_t.2])), (a_t_now, .inr (0, [.ref a_t_papers, .ref a_t_now_grants, .ref a_t_now_routes, .int s_t_now.1, .int s_t_now.2.1, .int (s_t_now.2.2 + (1 : Int32))])), (a_t_acts, .inr (1, [.int s_t_acts.1, .int s_t_acts.2.1, .ref a_t_acts_cells, .int s_t_acts.2.2])), (a_t_acts_cells, .inl (cI, s_t_acts_cells.1, .inl s_t_acts_cells.2))] := hD
    refine lv_aload_n hx hb dX3_night_28 rfl (lv_at hl 0 rfl) ?_
    refine lv_bipush (v := (6 : Int32)) hx hb dX3_night_29 (by decide) ?_
    refine lv_iconst (v := (0 : Int32)) hx hb dX3_night_31 (by decide) ?_
    obtain ⟨x32, h32, hM⟩ := bind_e hM
    refine muV (As := [.int (6 : Int32), .int (0 : Int32)]) (rest := []) (st2 := [.int x32.1]) (nw := [(a_t, .inr (3, [.ref a_t_papers, .ref a_t_now, .ref a_t_trial, .ref a_t_firstSlot, .ref a_t_secondSlot, .ref a_t_acts, .ref a_t_seen, .ref a_t_text, .ref a_t_doings, .int s_t.1, .long s_t.2])), (a_t_now, .inr (0, [.ref a_t_papers, .ref a_t_now_grants, .ref a_t_now_routes, .int s_t_now.1, .int s_t_now.2.1, .int (s_t_now.2.2 + (1 : Int32))])), (a_t_acts, .inr (1, [.int x32.2.1.1, .int x32.2.1.2.1, .ref a_t_acts_cells, .int x32.2.1.2.2])), (a_t_acts_cells, .inl (cI, x32.2.2.1, .inl x32.2.2.2))]) ⟨hx, hb, hml, hown, hU⟩ hE (okX3_remember a_t a_t_papers a_t_now a_t_trial a_t_firstSlot a_t_secondSlot a_t_acts a_t_seen a_t_text a_t_doings a_t_acts_cells s_t s_t_acts s_t_acts_cells (6 : Int32) (0 : Int32) x32 h32) lk_X3_138 hP hD hS hA [0, 2, 3] rfl rfl rfl rfl rfl rfl hl.1 rfl (Nat.le_of_ble_eq_true rfl) ⟨Nat.le_of_ble_eq_true rfl, Nat.le_of_ble_eq_true rfl⟩ dX3_night_32 ⟨Nat.le_refl _, Nat.le_refl _⟩ rfl rfl rfl rfl (fun H locs hP hD hS => ?_)
    refine lv_pop hx hb dX3_night_35 rfl ?_
    refine lv_aload_n hx hb dX3_night_36 rfl (lv_at hl 0 rfl) ?_
    refine va_get (D := (dC, dI)) (ci := 3) (v := .ref a_t_now) (C := RX3) (T := TX3) (N := 11) hx hb hU inlX3 hown hE.1 hP 0 rfl rfl 1 (by decide) (hU _ u_1_20) (fun _ h9 => h9) rfl dX3_night_37 ?_
    refine va_get (D := (dC, dI)) (ci := 0) (v := .int (s_t_now.2.2 + (1 : Int32))) (C := RX0) (T := TX0) (N := 6) hx hb hU inlX0 hown hE.1 hP 1 rfl rfl 5 (by decide) (hU _ u_11_20) (fun _ h9 => h9) rfl dX3_night_40 ?_
    cases hM
    exact rt _ _ _ _ _ hP hS dX3_night_43 rfl
  · have hM := ite_f c9 hM
    refine lv_bipush (v := (-3 : Int32)) hx hb dX3_night_12 (by decide) ?_
    cases hM
    exact rt _ _ _ _ _ hP hS dX3_night_14 rfl
def mX3_paper (s_t_papers : Int32 × Int32 × Int32) (s_t_papers_cells : Ar) (s_t_now : Int32 × Int32 × Int32) (v1 : Int32) (v2 : Int32) : Option (Int32) := (mX1_has s_t_papers v1).bind (fun x5 => (if x5 = true then (if v2 = (0 : Int32) then (mX1_at s_t_papers s_t_papers_cells v1 (3 : Int32)).bind (fun x54 => some (x54)) else (if v2 = (1 : Int32) then (mX1_at s_t_papers s_t_papers_cells v1 (0 : Int32)).bind (fun x64 => some (x64)) else (if v2 = (2 : Int32) then (mX1_at s_t_papers s_t_papers_cells v1 (1 : Int32)).bind (fun x74 => some (x74)) else (if v2 = (3 : Int32) then (mX1_at s_t_papers s_t_papers_cells v1 (4 : Int32)).bind (fun x84 => some (x84)) else (if v2 = (4 : Int32) then (mX0_standing s_t_now s_t_papers s_t_papers_cells s_t_now.1).bind (fun x99 => (mX3_bit x99 v1).bind (fun x103 => some (x103))) else some ((-2 : Int32))))))) else some ((-1 : Int32))))
set_option maxHeartbeats 4000000 in
set_option maxRecDepth 100000 in
theorem okX3_paper {l : Launch} {dC : Nat → ClassId} {dI : Nat → Nat → Nat} {cI cC cZ : ClassId} (a_t a_t_papers a_t_now a_t_trial a_t_firstSlot a_t_secondSlot a_t_acts a_t_seen a_t_text a_t_doings a_t_papers_cells a_t_now_grants a_t_now_routes : Nat) (s_t : Int32 × Int64) (s_t_papers : Int32 × Int32 × Int32) (s_t_papers_cells : Ar) (s_t_now : Int32 × Int32 × Int32) (v1 : Int32) (v2 : Int32) (res : Int32) (hM : mX3_paper s_t_papers s_t_papers_cells s_t_now v1 v2 = some res) : Rd l yX3_paper cX3_paper 3 (some .int) 2 46 (dC, dI) cI cC cZ [(a_t, .inr (3, [.ref a_t_papers, .ref a_t_now, .ref a_t_trial, .ref a_t_firstSlot, .ref a_t_secondSlot, .ref a_t_acts, .ref a_t_seen, .ref a_t_text, .ref a_t_doings, .int s_t.1, .long s_t.2])), (a_t_papers, .inr (1, [.int s_t_papers.1, .int s_t_papers.2.1, .ref a_t_papers_cells, .int s_t_papers.2.2])), (a_t_papers_cells, .inl (cI, s_t_papers_cells.1, .inl s_t_papers_cells.2)), (a_t_now, .inr (0, [.ref a_t_papers, .ref a_t_now_grants, .ref a_t_now_routes, .int s_t_now.1, .int s_t_now.2.1, .int s_t_now.2.2]))] [.ref a_t, .int v1, .int v2] (some (.int res)) := by
  refine Rd.ofI (by decide) (Nat.le_of_ble_eq_true rfl) [(0, .ref a_t), (1, .int v1), (2, .int v2)] rfl ?_
  intro p e s m args below meth c ls Q hx hb hml hown hU hE hP rt hl
  have hown : s.vm.findClass RX3 = some m.cls := hown
  unfold mX3_paper at hM
  refine lv_aload_n hx hb dX3_paper_0 rfl (lv_at hl 0 rfl) ?_
  refine va_get (D := (dC, dI)) (ci := 3) (v := .ref a_t_papers) (C := RX3) (T := TX3) (N := 11) hx hb hU inlX3 hown hE.1 hP 0 rfl rfl 0 (by decide) (hU _ u_1_16) (fun _ h9 => h9) rfl dX3_paper_1 ?_
  refine lv_iload_n hx hb dX3_paper_4 rfl (lv_at hl 1 rfl) ?_
  obtain ⟨x5, h5, hM⟩ := bind_e hM
  refine rdV (As := [.int v1]) (rest := []) (st2 := [.int (b2i x5)]) ⟨hx, hb, hml, hown, hU⟩ hE (okX1_has a_t_papers a_t_papers_cells s_t_papers v1 x5 h5) lk_X3_114 (hP.sub [1] rfl) rfl rfl rfl hl.1 rfl (Nat.le_of_ble_eq_true rfl) ⟨Nat.le_of_ble_eq_true rfl, Nat.le_of_ble_eq_true rfl⟩ dX3_paper_5 ⟨Nat.le_refl _, Nat.le_refl _⟩ rfl ?_
  refine lv_if_ne (tgt := 13) hx hb dX3_paper_8 (by decide) (fun c8 => ?_) (fun c8 => ?_)
  · have hM := ite_t (b2i_ne0 c8) hM
    refine lv_iload_n hx hb dX3_paper_13 rfl (lv_at hl 2 rfl) ?_
    by_cases c14_0 : v2 = (0 : Int32)
    · have hM := ite_t c14_0 hM
      refine lv_tableIn (off := 34) (tgt := 48) hx hb dX3_paper_14 (by rw [c14_0]; decide) (by rw [c14_0]; decide) (by rw [c14_0]; rfl) (by decide) ?_
      refine lv_aload_n hx hb dX3_paper_48 rfl (lv_at hl 0 rfl) ?_
      refine va_get (D := (dC, dI)) (ci := 3) (v := .ref a_t_papers) (C := RX3) (T := TX3) (N := 11) hx hb hU inlX3 hown hE.1 hP 0 rfl rfl 0 (by decide) (hU _ u_1_16) (fun _ h9 => h9) rfl dX3_paper_49 ?_
      refine lv_iload_n hx hb dX3_paper_52 rfl (lv_at hl 1 rfl) ?_
      refine lv_iconst (v := (3 : Int32)) hx hb dX3_paper_53 (by decide) ?_
      obtain ⟨x54, h54, hM⟩ := bind_e hM
      refine rdV (As := [.int v1, .int (3 : Int32)]) (rest := []) (st2 := [.int x54]) ⟨hx, hb, hml, hown, hU⟩ hE (okX1_at a_t_papers a_t_papers_cells s_t_papers s_t_papers_cells v1 (3 : Int32) x54 h54) lk_X3_118 (hP.sub [1, 2] rfl) rfl rfl rfl hl.1 rfl (Nat.le_of_ble_eq_true rfl) ⟨Nat.le_of_ble_eq_true rfl, Nat.le_of_ble_eq_true rfl⟩ dX3_paper_54 ⟨Nat.le_refl _, Nat.le_refl _⟩ rfl ?_
      cases hM
      exact rt _ _ _ dX3_paper_57 rfl
    have hM := ite_f c14_0 hM
    by_cases c14_1 : v2 = (1 : Int32)
    · have hM := ite_t c14_1 hM
      refine lv_tableIn (off := 44) (tgt := 58) hx hb dX3_paper_14 (by rw [c14_1]; decide) (by rw [c14_1]; decide) (by rw [c14_1]; rfl) (by decide) ?_
      refine lv_aload_n hx hb dX3_paper_58 rfl (lv_at hl 0 rfl) ?_
      refine va_get (D := (dC, dI)) (ci := 3) (v := .ref a_t_papers) (C := RX3) (T := TX3) (N := 11) hx hb hU inlX3 hown hE.1 hP 0 rfl rfl 0 (by decide) (hU _ u_1_16) (fun _ h9 => h9) rfl dX3_paper_59 ?_
      refine lv_iload_n hx hb dX3_paper_62 rfl (lv_at hl 1 rfl) ?_
      refine lv_iconst (v := (0 : Int32)) hx hb dX3_paper_63 (by decide) ?_
      obtain ⟨x64, h64, hM⟩ := bind_e hM
      refine rdV (As := [.int v1, .int (0 : Int32)]) (rest := []) (st2 := [.int x64]) ⟨hx, hb, hml, hown, hU⟩ hE (okX1_at a_t_papers a_t_papers_cells s_t_papers s_t_papers_cells v1 (0 : Int32) x64 h64) lk_X3_118 (hP.sub [1, 2] rfl) rfl rfl rfl hl.1 rfl (Nat.le_of_ble_eq_true rfl) ⟨Nat.le_of_ble_eq_true rfl, Nat.le_of_ble_eq_true rfl⟩ dX3_paper_64 ⟨Nat.le_refl _, Nat.le_refl _⟩ rfl ?_
      cases hM
      exact rt _ _ _ dX3_paper_67 rfl
    have hM := ite_f c14_1 hM
    by_cases c14_2 : v2 = (2 : Int32)
    · have hM := ite_t c14_2 hM
      refine lv_tableIn (off := 54) (tgt := 68) hx hb dX3_paper_14 (by rw [c14_2]; decide) (by rw [c14_2]; decide) (by rw [c14_2]; rfl) (by decide) ?_
      refine lv_aload_n hx hb dX3_paper_68 rfl (lv_at hl 0 rfl) ?_
      refine va_get (D := (dC, dI)) (ci := 3) (v := .ref a_t_papers) (C := RX3) (T := TX3) (N := 11) hx hb hU inlX3 hown hE.1 hP 0 rfl rfl 0 (by decide) (hU _ u_1_16) (fun _ h9 => h9) rfl dX3_paper_69 ?_
      refine lv_iload_n hx hb dX3_paper_72 rfl (lv_at hl 1 rfl) ?_
      refine lv_iconst (v := (1 : Int32)) hx hb dX3_paper_73 (by decide) ?_
      obtain ⟨x74, h74, hM⟩ := bind_e hM
      refine rdV (As := [.int v1, .int (1 : Int32)]) (rest := []) (st2 := [.int x74]) ⟨hx, hb, hml, hown, hU⟩ hE (okX1_at a_t_papers a_t_papers_cells s_t_papers s_t_papers_cells v1 (1 : Int32) x74 h74) lk_X3_118 (hP.sub [1, 2] rfl) rfl rfl rfl hl.1 rfl (Nat.le_of_ble_eq_true rfl) ⟨Nat.le_of_ble_eq_true rfl, Nat.le_of_ble_eq_true rfl⟩ dX3_paper_74 ⟨Nat.le_refl _, Nat.le_refl _⟩ rfl ?_
      cases hM
      exact rt _ _ _ dX3_paper_77 rfl
    have hM := ite_f c14_2 hM
    by_cases c14_3 : v2 = (3 : Int32)
    · have hM := ite_t c14_3 hM
      refine lv_tableIn (off := 64) (tgt := 78) hx hb dX3_paper_14 (by rw [c14_3]; decide) (by rw [c14_3]; decide) (by rw [c14_3]; rfl) (by decide) ?_
      refine lv_aload_n hx hb dX3_paper_78 rfl (lv_at hl 0 rfl) ?_
      refine va_get (D := (dC, dI)) (ci := 3) (v := .ref a_t_papers) (C := RX3) (T := TX3) (N := 11) hx hb hU inlX3 hown hE.1 hP 0 rfl rfl 0 (by decide) (hU _ u_1_16) (fun _ h9 => h9) rfl dX3_paper_79 ?_
      refine lv_iload_n hx hb dX3_paper_82 rfl (lv_at hl 1 rfl) ?_
      refine lv_iconst (v := (4 : Int32)) hx hb dX3_paper_83 (by decide) ?_
      obtain ⟨x84, h84, hM⟩ := bind_e hM
      refine rdV (As := [.int v1, .int (4 : Int32)]) (rest := []) (st2 := [.int x84]) ⟨hx, hb, hml, hown, hU⟩ hE (okX1_at a_t_papers a_t_papers_cells s_t_papers s_t_papers_cells v1 (4 : Int32) x84 h84) lk_X3_118 (hP.sub [1, 2] rfl) rfl rfl rfl hl.1 rfl (Nat.le_of_ble_eq_true rfl) ⟨Nat.le_of_ble_eq_true rfl, Nat.le_of_ble_eq_true rfl⟩ dX3_paper_84 ⟨Nat.le_refl _, Nat.le_refl _⟩ rfl ?_
      cases hM
      exact rt _ _ _ dX3_paper_87 rfl
    have hM := ite_f c14_3 hM
    by_cases c14_4 : v2 = (4 : Int32)
    · have hM := ite_t c14_4 hM
      refine lv_tableIn (off := 74) (tgt := 88) hx hb dX3_paper_14 (by rw [c14_4]; decide) (by rw [c14_4]; decide) (by rw [c14_4]; rfl) (by decide) ?_
      refine lv_aload_n hx hb dX3_paper_88 rfl (lv_at hl 0 rfl) ?_
      refine va_get (D := (dC, dI)) (ci := 3) (v := .ref a_t_now) (C := RX3) (T := TX3) (N := 11) hx hb hU inlX3 hown hE.1 hP 0 rfl rfl 1 (by decide) (hU _ u_1_20) (fun _ h9 => h9) rfl dX3_paper_89 ?_
      refine lv_aload_n hx hb dX3_paper_92 rfl (lv_at hl 0 rfl) ?_
      refine va_get (D := (dC, dI)) (ci := 3) (v := .ref a_t_now) (C := RX3) (T := TX3) (N := 11) hx hb hU inlX3 hown hE.1 hP 0 rfl rfl 1 (by decide) (hU _ u_1_20) (fun _ h9 => h9) rfl dX3_paper_93 ?_
      refine va_get (D := (dC, dI)) (ci := 0) (v := .int s_t_now.1) (C := RX0) (T := TX0) (N := 6) hx hb hU inlX0 hown hE.1 hP 3 rfl rfl 3 (by decide) (hU _ u_11_21) (fun _ h9 => h9) rfl dX3_paper_96 ?_
      obtain ⟨x99, h99, hM⟩ := bind_e hM
      refine rdV (As := [.int s_t_now.1]) (rest := []) (st2 := [.int x99]) ⟨hx, hb, hml, hown, hU⟩ hE (okX0_standing a_t_now a_t_papers a_t_now_grants a_t_now_routes a_t_papers_cells s_t_now s_t_papers s_t_papers_cells s_t_now.1 x99 h99) lk_X3_97 (hP.sub [3, 1, 2] rfl) rfl rfl rfl hl.1 rfl (Nat.le_of_ble_eq_true rfl) ⟨Nat.le_of_ble_eq_true rfl, Nat.le_of_ble_eq_true rfl⟩ dX3_paper_99 ⟨Nat.le_refl _, Nat.le_refl _⟩ rfl ?_
      refine lv_iload_n hx hb dX3_paper_102 rfl (lv_at hl 1 rfl) ?_
      obtain ⟨x103, h103, hM⟩ := bind_e hM
      refine rdS (As := [.int x99, .int v1]) (rest := []) (st2 := [.int x103]) ⟨hx, hb, hml, hown, hU⟩ hE (okX3_bit x99 v1 x103 h103) lk_X3_121 (hP.sub [] rfl) rfl hl.1 rfl (Nat.le_of_ble_eq_true rfl) ⟨Nat.le_of_ble_eq_true rfl, Nat.le_of_ble_eq_true rfl⟩ dX3_paper_103 ⟨Nat.le_refl _, Nat.le_refl _⟩ rfl ?_
      cases hM
      exact rt _ _ _ dX3_paper_106 rfl
    have hM := ite_f c14_4 hM
    refine lv_tableOut (tgt := 107) hx hb dX3_paper_14 (sw_out (fun v h1 h2 h3 => by rcases (show v = 0 ∨ v = 1 ∨ v = 2 ∨ v = 3 ∨ v = 4 by omega) with rfl | rfl | rfl | rfl | rfl <;> first | exact c14_0 (Int32.toInt_inj.mp (h3.trans (by decide))) | exact c14_1 (Int32.toInt_inj.mp (h3.trans (by decide))) | exact c14_2 (Int32.toInt_inj.mp (h3.trans (by decide))) | exact c14_3 (Int32.toInt_inj.mp (h3.trans (by decide))) | exact c14_4 (Int32.toInt_inj.mp (h3.trans (by decide))))) (by decide) ?_
    refine lv_bipush (v := (-2 : Int32)) hx hb dX3_paper_107 (by decide) ?_
    cases hM
    exact rt _ _ _ dX3_paper_109 rfl
  · have hM := ite_f (b2i_eq0 c8) hM
    refine lv_iconst (v := (-1 : Int32)) hx hb dX3_paper_11 (by decide) ?_
    cases hM
    exact rt _ _ _ dX3_paper_12 rfl
def mX3_putBack_b8 (s_q3 : Int32 × Int32 × Int32) (s_t_acts : Int32 × Int32 × Int32) (s_t_acts_cells : Ar) (v1 : Int32) (v2 : Int32) : Nat → Int32 → Ar → Option ((Int32 × Int32 × Int32) × Ar)
  | 0, _, _ => none
  | n + 1, v4, s_q3_cells => (if s_q3.2.1 ≤ v4 then some (s_q3, s_q3_cells) else (mX1_at s_t_acts s_t_acts_cells v1 ((2 : Int32) + v4)).bind (fun x30 => (mX1_put s_q3 s_q3_cells v2 v4 x30).bind (fun x33 => mX3_putBack_b8 s_q3 s_t_acts s_t_acts_cells v1 v2 n (v4 + (1 : Int32)) x33)))
def mX3_putBack (s_q3 : Int32 × Int32 × Int32) (s_q3_cells : Ar) (s_t_acts : Int32 × Int32 × Int32) (s_t_acts_cells : Ar) (v1 : Int32) (v2 : Int32) : Option ((Int32 × Int32 × Int32) × Ar) := (mX1_openAt s_q3 s_q3_cells v2).bind (fun x2 => mX3_putBack_b8 x2.1 s_t_acts s_t_acts_cells v1 v2 FU (0 : Int32) x2.2)
set_option maxHeartbeats 4000000 in
set_option maxRecDepth 100000 in
theorem okX3_putBack {l : Launch} {dC : Nat → ClassId} {dI : Nat → Nat → Nat} {cI cC cZ : ClassId} (a_t a_t_papers a_t_now a_t_trial a_t_firstSlot a_t_secondSlot a_t_acts a_t_seen a_t_text a_t_doings a_q3 a_q3_cells a_t_acts_cells : Nat) (s_t : Int32 × Int64) (s_q3 : Int32 × Int32 × Int32) (s_q3_cells : Ar) (s_t_acts : Int32 × Int32 × Int32) (s_t_acts_cells : Ar) (v1 : Int32) (v2 : Int32) (res : (Int32 × Int32 × Int32) × Ar) (hM : mX3_putBack s_q3 s_q3_cells s_t_acts s_t_acts_cells v1 v2 = some res) : Mu l yX3_putBack cX3_putBack 5 none 2 61 (dC, dI) cI cC cZ [(a_t, .inr (3, [.ref a_t_papers, .ref a_t_now, .ref a_t_trial, .ref a_t_firstSlot, .ref a_t_secondSlot, .ref a_t_acts, .ref a_t_seen, .ref a_t_text, .ref a_t_doings, .int s_t.1, .long s_t.2])), (a_q3, .inr (1, [.int s_q3.1, .int s_q3.2.1, .ref a_q3_cells, .int s_q3.2.2])), (a_q3_cells, .inl (cI, s_q3_cells.1, .inl s_q3_cells.2)), (a_t_acts, .inr (1, [.int s_t_acts.1, .int s_t_acts.2.1, .ref a_t_acts_cells, .int s_t_acts.2.2])), (a_t_acts_cells, .inl (cI, s_t_acts_cells.1, .inl s_t_acts_cells.2))] [(a_t, .inr (3, [.ref a_t_papers, .ref a_t_now, .ref a_t_trial, .ref a_t_firstSlot, .ref a_t_secondSlot, .ref a_t_acts, .ref a_t_seen, .ref a_t_text, .ref a_t_doings, .int s_t.1, .long s_t.2])), (a_q3, .inr (1, [.int res.1.1, .int res.1.2.1, .ref a_q3_cells, .int res.1.2.2])), (a_q3_cells, .inl (cI, res.2.1, .inl res.2.2)), (a_t_acts, .inr (1, [.int s_t_acts.1, .int s_t_acts.2.1, .ref a_t_acts_cells, .int s_t_acts.2.2])), (a_t_acts_cells, .inl (cI, s_t_acts_cells.1, .inl s_t_acts_cells.2))] [.ref a_t, .int v1, .int v2, .ref a_q3] none := by
  refine Mu.ofV (by decide) (Nat.le_of_ble_eq_true rfl) [(0, .ref a_t), (1, .int v1), (2, .int v2), (3, .ref a_q3)] rfl ?_
  intro p e s m args below meth c ls Q A hx hb hml hown hU hE hP hD hS hA rt hl
  have hown : s.vm.findClass RX3 = some m.cls := hown
  unfold mX3_putBack at hM
  refine lv_aload_n hx hb dX3_putBack_0 rfl (lv_at hl 3 rfl) ?_
  refine lv_iload_n hx hb dX3_putBack_1 rfl (lv_at hl 2 rfl) ?_
  obtain ⟨x2, h2, hM⟩ := bind_e hM
  refine muV (As := [.int v2]) (rest := []) (st2 := []) (nw := [(a_t, .inr (3, [.ref a_t_papers, .ref a_t_now, .ref a_t_trial, .ref a_t_firstSlot, .ref a_t_secondSlot, .ref a_t_acts, .ref a_t_seen, .ref a_t_text, .ref a_t_doings, .int s_t.1, .long s_t.2])), (a_q3, .inr (1, [.int x2.1.1, .int x2.1.2.1, .ref a_q3_cells, .int x2.1.2.2])), (a_q3_cells, .inl (cI, x2.2.1, .inl x2.2.2)), (a_t_acts, .inr (1, [.int s_t_acts.1, .int s_t_acts.2.1, .ref a_t_acts_cells, .int s_t_acts.2.2])), (a_t_acts_cells, .inl (cI, s_t_acts_cells.1, .inl s_t_acts_cells.2))]) ⟨hx, hb, hml, hown, hU⟩ hE (okX1_openAt a_q3 a_q3_cells s_q3 s_q3_cells v2 x2 h2) lk_X3_214 hP hD hS hA [1, 2] rfl rfl rfl rfl rfl rfl hl.1 rfl (Nat.le_of_ble_eq_true rfl) ⟨Nat.le_of_ble_eq_true rfl, Nat.le_of_ble_eq_true rfl⟩ dX3_putBack_2 ⟨Nat.le_refl _, Nat.le_refl _⟩ rfl rfl rfl rfl (fun H locs hP hD hS => ?_)
  refine lv_iconst (v := (0 : Int32)) hx hb dX3_putBack_5 (by decide) ?_
  refine lv_istore (lv' := [(4, .int (0 : Int32)), (0, .ref a_t), (1, .int v1), (2, .int v2), (3, .ref a_q3)]) hx hb dX3_putBack_6 hl (by decide) rfl (fun ls hl => ?_)
  have w_8 : ∀ (n : Nat) (v4_8 : Int32) (s_q3_cells_8 : Ar), mX3_putBack_b8 x2.1 s_t_acts s_t_acts_cells v1 v2 n v4_8 s_q3_cells_8 = some res → ∀ (ls : Array Slot) (H : Heap) (locs : List Loc), va_P (dC, dI) vwCl [(a_t, .inr (3, [.ref a_t_papers, .ref a_t_now, .ref a_t_trial, .ref a_t_firstSlot, .ref a_t_secondSlot, .ref a_t_acts, .ref a_t_seen, .ref a_t_text, .ref a_t_doings, .int s_t.1, .long s_t.2])), (a_q3, .inr (1, [.int x2.1.1, .int x2.1.2.1, .ref a_q3_cells, .int x2.1.2.2])), (a_q3_cells, .inl (cI, s_q3_cells_8.1, .inl s_q3_cells_8.2)), (a_t_acts, .inr (1, [.int s_t_acts.1, .int s_t_acts.2.1, .ref a_t_acts_cells, .int s_t_acts.2.2])), (a_t_acts_cells, .inl (cI, s_t_acts_cells.1, .inl s_t_acts_cells.2))] H → va_D A [(a_t, .inr (3, [.ref a_t_papers, .ref a_t_now, .ref a_t_trial, .ref a_t_firstSlot, .ref a_t_secondSlot, .ref a_t_acts, .ref a_t_seen, .ref a_t_text, .ref a_t_doings, .int s_t.1, .long s_t.2])), (a_q3, .inr (1, [.int x2.1.1, .int x2.1.2.1, .ref a_q3_cells, .int x2.1.2.2])), (a_q3_cells, .inl (cI, s_q3_cells_8.1, .inl s_q3_cells_8.2)), (a_t_acts, .inr (1, [.int s_t_acts.1, .int s_t_acts.2.1, .ref a_t_acts_cells, .int s_t_acts.2.2])), (a_t_acts_cells, .inl (cI, s_t_acts_cells.1, .inl s_t_acts_cells.2))] → va_S A s.heap H locs → lv_has ls 5 [(0, .ref a_t), (1, .int v1), (2, .int v2), (3, .ref a_q3), (4, .int v4_8)] → W p l e (RM 2 61) s m args below meth c H locs 0 0 Q (F0 m 8 ls []) := by
    intro n
    induction n with
    | zero =>
      intro v4_8 s_q3_cells_8 hM
      rw [mX3_putBack_b8] at hM
      cases hM
    | succ n_8 ih_8 =>
      intro v4_8 s_q3_cells_8 hM ls H locs hP hD hS hl
      rw [mX3_putBack_b8] at hM
      refine lv_iload hx hb dX3_putBack_8 (lv_at hl 4 rfl) ?_
      refine lv_aload_n hx hb dX3_putBack_10 rfl (lv_at hl 3 rfl) ?_
      refine va_get (D := (dC, dI)) (ci := 1) (v := .int x2.1.2.1) (C := RX1) (T := TX1) (N := 4) hx hb hU inlX1 hown hE.1 hP 1 rfl rfl 1 (by decide) (hU _ u_19_13) (fun _ h9 => h9) rfl dX3_putBack_11 ?_
      refine lv_icmp_ge (tgt := 42) hx hb dX3_putBack_14 (by decide) (fun c14 => ?_) (fun c14 => ?_)
      · have hM := ite_t c14 hM
        cases hM
        exact rt _ _ _ _ hP hS dX3_putBack_42 rfl
      · have hM := ite_f c14 hM
        refine lv_aload_n hx hb dX3_putBack_17 rfl (lv_at hl 3 rfl) ?_
        refine lv_iload_n hx hb dX3_putBack_18 rfl (lv_at hl 2 rfl) ?_
        refine lv_iload hx hb dX3_putBack_19 (lv_at hl 4 rfl) ?_
        refine lv_aload_n hx hb dX3_putBack_21 rfl (lv_at hl 0 rfl) ?_
        refine va_get (D := (dC, dI)) (ci := 3) (v := .ref a_t_acts) (C := RX3) (T := TX3) (N := 11) hx hb hU inlX3 hown hE.1 hP 0 rfl rfl 5 (by decide) (hU _ u_2_0) (fun _ h9 => h9) rfl dX3_putBack_22 ?_
        refine lv_iload_n hx hb dX3_putBack_25 rfl (lv_at hl 1 rfl) ?_
        refine lv_iconst (v := (2 : Int32)) hx hb dX3_putBack_26 (by decide) ?_
        refine lv_iload hx hb dX3_putBack_27 (lv_at hl 4 rfl) ?_
        refine lv_iadd hx hb dX3_putBack_29 ?_
        obtain ⟨x30, h30, hM⟩ := bind_e hM
        refine rdV (As := [.int v1, .int ((2 : Int32) + v4_8)]) (rest := [.int v4_8, .int v2, .ref a_q3]) (st2 := [.int x30, .int v4_8, .int v2, .ref a_q3]) ⟨hx, hb, hml, hown, hU⟩ hE (okX1_at a_t_acts a_t_acts_cells s_t_acts s_t_acts_cells v1 ((2 : Int32) + v4_8) x30 h30) lk_X3_118 (hP.sub [3, 4] rfl) rfl rfl rfl hl.1 rfl (Nat.le_of_ble_eq_true rfl) ⟨Nat.le_of_ble_eq_true rfl, Nat.le_of_ble_eq_true rfl⟩ dX3_putBack_30 ⟨Nat.le_refl _, Nat.le_refl _⟩ rfl ?_
        obtain ⟨x33, h33, hM⟩ := bind_e hM
        refine muV (As := [.int v2, .int v4_8, .int x30]) (rest := []) (st2 := []) (nw := [(a_t, .inr (3, [.ref a_t_papers, .ref a_t_now, .ref a_t_trial, .ref a_t_firstSlot, .ref a_t_secondSlot, .ref a_t_acts, .ref a_t_seen, .ref a_t_text, .ref a_t_doings, .int s_t.1, .long s_t.2])), (a_q3, .inr (1, [.int x2.1.1, .int x2.1.2.1, .ref a_q3_cells, .int x2.1.2.2])), (a_q3_cells, .inl (cI, x33.1, .inl x33.2)), (a_t_acts, .inr (1, [.int s_t_acts.1, .int s_t_acts.2.1, .ref a_t_acts_cells, .int s_t_acts.2.2])), (a_t_acts_cells, .inl (cI, s_t_acts_cells.1, .inl s_t_acts_cells.2))]) ⟨hx, hb, hml, hown, hU⟩ hE (okX1_put a_q3 a_q3_cells x2.1 s_q3_cells_8 v2 v4_8 x30 x33 h33) lk_X3_179 hP hD hS hA [1, 2] rfl rfl rfl rfl rfl rfl hl.1 rfl (Nat.le_of_ble_eq_true rfl) ⟨Nat.le_of_ble_eq_true rfl, Nat.le_of_ble_eq_true rfl⟩ dX3_putBack_33 ⟨Nat.le_refl _, Nat.le_refl _⟩ rfl rfl rfl rfl (fun H locs hP hD hS => ?_)
        refine lv_iinc (v := (v4_8 + (1 : Int32))) (lv' := [(4, .int (v4_8 + (1 : Int32))), (0, .ref a_t), (1, .int v1), (2, .int v2), (3, .ref a_q3)]) hx hb dX3_putBack_36 hl (k := 4) rfl rfl (by decide) rfl (fun ls hl => ?_)
        refine lv_goto (tgt := 8) hx hb dX3_putBack_39 (by decide) ?_
        exact ih_8 (v4_8 + (1 : Int32)) x33 hM ls _ _ hP hD hS (lv_sub hl [1, 2, 3, 4, 0] rfl)
  exact w_8 FU (0 : Int32) x2.2 hM ls _ _ hP hD hS (lv_sub hl [1, 2, 3, 4, 0] rfl)
def mX3_rememberRow_b11 (s_t_acts : Int32 × Int32 × Int32) (s_q3 : Int32 × Int32 × Int32) (s_q3_cells : Ar) (v2 : Int32) (v4 : Int32) : Nat → Int32 → Ar → Option ((Int32 × Int32 × Int32) × Ar)
  | 0, _, _ => none
  | n + 1, v5, s_t_acts_cells => (if s_q3.2.1 ≤ v5 then some (s_t_acts, s_t_acts_cells) else (mX1_at s_q3 s_q3_cells v2 v5).bind (fun x34 => (mX1_put s_t_acts s_t_acts_cells v4 ((2 : Int32) + v5) x34).bind (fun x37 => mX3_rememberRow_b11 s_t_acts s_q3 s_q3_cells v2 v4 n (v5 + (1 : Int32)) x37)))
def mX3_rememberRow (s_t_acts : Int32 × Int32 × Int32) (s_t_acts_cells : Ar) (s_q3 : Int32 × Int32 × Int32) (s_q3_cells : Ar) (v1 : Int32) (v2 : Int32) : Option ((Int32 × Int32 × Int32) × Ar) := (mX3_remember s_t_acts s_t_acts_cells v1 v2).bind (fun x3 => mX3_rememberRow_b11 x3.2.1 s_q3 s_q3_cells v2 x3.1 FU (0 : Int32) x3.2.2)
set_option maxHeartbeats 4000000 in
set_option maxRecDepth 100000 in
theorem okX3_rememberRow {l : Launch} {dC : Nat → ClassId} {dI : Nat → Nat → Nat} {cI cC cZ : ClassId} (a_t a_t_papers a_t_now a_t_trial a_t_firstSlot a_t_secondSlot a_t_acts a_t_seen a_t_text a_t_doings a_t_acts_cells a_q3 a_q3_cells : Nat) (s_t : Int32 × Int64) (s_t_acts : Int32 × Int32 × Int32) (s_t_acts_cells : Ar) (s_q3 : Int32 × Int32 × Int32) (s_q3_cells : Ar) (v1 : Int32) (v2 : Int32) (res : (Int32 × Int32 × Int32) × Ar) (hM : mX3_rememberRow s_t_acts s_t_acts_cells s_q3 s_q3_cells v1 v2 = some res) : Mu l yX3_rememberRow cX3_rememberRow 6 none 3 84 (dC, dI) cI cC cZ [(a_t, .inr (3, [.ref a_t_papers, .ref a_t_now, .ref a_t_trial, .ref a_t_firstSlot, .ref a_t_secondSlot, .ref a_t_acts, .ref a_t_seen, .ref a_t_text, .ref a_t_doings, .int s_t.1, .long s_t.2])), (a_t_acts, .inr (1, [.int s_t_acts.1, .int s_t_acts.2.1, .ref a_t_acts_cells, .int s_t_acts.2.2])), (a_t_acts_cells, .inl (cI, s_t_acts_cells.1, .inl s_t_acts_cells.2)), (a_q3, .inr (1, [.int s_q3.1, .int s_q3.2.1, .ref a_q3_cells, .int s_q3.2.2])), (a_q3_cells, .inl (cI, s_q3_cells.1, .inl s_q3_cells.2))] [(a_t, .inr (3, [.ref a_t_papers, .ref a_t_now, .ref a_t_trial, .ref a_t_firstSlot, .ref a_t_secondSlot, .ref a_t_acts, .ref a_t_seen, .ref a_t_text, .ref a_t_doings, .int s_t.1, .long s_t.2])), (a_t_acts, .inr (1, [.int res.1.1, .int res.1.2.1, .ref a_t_acts_cells, .int res.1.2.2])), (a_t_acts_cells, .inl (cI, res.2.1, .inl res.2.2)), (a_q3, .inr (1, [.int s_q3.1, .int s_q3.2.1, .ref a_q3_cells, .int s_q3.2.2])), (a_q3_cells, .inl (cI, s_q3_cells.1, .inl s_q3_cells.2))] [.ref a_t, .int v1, .int v2, .ref a_q3] none := by
  refine Mu.ofV (by decide) (Nat.le_of_ble_eq_true rfl) [(0, .ref a_t), (1, .int v1), (2, .int v2), (3, .ref a_q3)] rfl ?_
  intro p e s m args below meth c ls Q A hx hb hml hown hU hE hP hD hS hA rt hl
  have hown : s.vm.findClass RX3 = some m.cls := hown
  unfold mX3_rememberRow at hM
  refine lv_aload_n hx hb dX3_rememberRow_0 rfl (lv_at hl 0 rfl) ?_
  refine lv_iload_n hx hb dX3_rememberRow_1 rfl (lv_at hl 1 rfl) ?_
  refine lv_iload_n hx hb dX3_rememberRow_2 rfl (lv_at hl 2 rfl) ?_
  obtain ⟨x3, h3, hM⟩ := bind_e hM
  refine muV (As := [.int v1, .int v2]) (rest := []) (st2 := [.int x3.1]) (nw := [(a_t, .inr (3, [.ref a_t_papers, .ref a_t_now, .ref a_t_trial, .ref a_t_firstSlot, .ref a_t_secondSlot, .ref a_t_acts, .ref a_t_seen, .ref a_t_text, .ref a_t_doings, .int s_t.1, .long s_t.2])), (a_t_acts, .inr (1, [.int x3.2.1.1, .int x3.2.1.2.1, .ref a_t_acts_cells, .int x3.2.1.2.2])), (a_t_acts_cells, .inl (cI, x3.2.2.1, .inl x3.2.2.2)), (a_q3, .inr (1, [.int s_q3.1, .int s_q3.2.1, .ref a_q3_cells, .int s_q3.2.2])), (a_q3_cells, .inl (cI, s_q3_cells.1, .inl s_q3_cells.2))]) ⟨hx, hb, hml, hown, hU⟩ hE (okX3_remember a_t a_t_papers a_t_now a_t_trial a_t_firstSlot a_t_secondSlot a_t_acts a_t_seen a_t_text a_t_doings a_t_acts_cells s_t s_t_acts s_t_acts_cells v1 v2 x3 h3) lk_X3_138 hP hD hS hA [0, 1, 2] rfl rfl rfl rfl rfl rfl hl.1 rfl (Nat.le_of_ble_eq_true rfl) ⟨Nat.le_of_ble_eq_true rfl, Nat.le_of_ble_eq_true rfl⟩ dX3_rememberRow_3 ⟨Nat.le_refl _, Nat.le_refl _⟩ rfl rfl rfl rfl (fun H locs hP hD hS => ?_)
  refine lv_istore (lv' := [(4, .int x3.1), (0, .ref a_t), (1, .int v1), (2, .int v2), (3, .ref a_q3)]) hx hb dX3_rememberRow_6 hl (by decide) rfl (fun ls hl => ?_)
  refine lv_iconst (v := (0 : Int32)) hx hb dX3_rememberRow_8 (by decide) ?_
  refine lv_istore (lv' := [(5, .int (0 : Int32)), (4, .int x3.1), (0, .ref a_t), (1, .int v1), (2, .int v2), (3, .ref a_q3)]) hx hb dX3_rememberRow_9 hl (by decide) rfl (fun ls hl => ?_)
  have w_11 : ∀ (n : Nat) (v5_11 : Int32) (s_t_acts_cells_11 : Ar), mX3_rememberRow_b11 x3.2.1 s_q3 s_q3_cells v2 x3.1 n v5_11 s_t_acts_cells_11 = some res → ∀ (ls : Array Slot) (H : Heap) (locs : List Loc), va_P (dC, dI) vwCl [(a_t, .inr (3, [.ref a_t_papers, .ref a_t_now, .ref a_t_trial, .ref a_t_firstSlot, .ref a_t_secondSlot, .ref a_t_acts, .ref a_t_seen, .ref a_t_text, .ref a_t_doings, .int s_t.1, .long s_t.2])), (a_t_acts, .inr (1, [.int x3.2.1.1, .int x3.2.1.2.1, .ref a_t_acts_cells, .int x3.2.1.2.2])), (a_t_acts_cells, .inl (cI, s_t_acts_cells_11.1, .inl s_t_acts_cells_11.2)), (a_q3, .inr (1, [.int s_q3.1, .int s_q3.2.1, .ref a_q3_cells, .int s_q3.2.2])), (a_q3_cells, .inl (cI, s_q3_cells.1, .inl s_q3_cells.2))] H → va_D A [(a_t, .inr (3, [.ref a_t_papers, .ref a_t_now, .ref a_t_trial, .ref a_t_firstSlot, .ref a_t_secondSlot, .ref a_t_acts, .ref a_t_seen, .ref a_t_text, .ref a_t_doings, .int s_t.1, .long s_t.2])), (a_t_acts, .inr (1, [.int x3.2.1.1, .int x3.2.1.2.1, .ref a_t_acts_cells, .int x3.2.1.2.2])), (a_t_acts_cells, .inl (cI, s_t_acts_cells_11.1, .inl s_t_acts_cells_11.2)), (a_q3, .inr (1, [.int s_q3.1, .int s_q3.2.1, .ref a_q3_cells, .int s_q3.2.2])), (a_q3_cells, .inl (cI, s_q3_cells.1, .inl s_q3_cells.2))] → va_S A s.heap H locs → lv_has ls 6 [(0, .ref a_t), (2, .int v2), (3, .ref a_q3), (4, .int x3.1), (5, .int v5_11)] → W p l e (RM 3 84) s m args below meth c H locs 0 0 Q (F0 m 11 ls []) := by
    intro n
    induction n with
    | zero =>
      intro v5_11 s_t_acts_cells_11 hM
      rw [mX3_rememberRow_b11] at hM
      cases hM
    | succ n_11 ih_11 =>
      intro v5_11 s_t_acts_cells_11 hM ls H locs hP hD hS hl
      rw [mX3_rememberRow_b11] at hM
      refine lv_iload hx hb dX3_rememberRow_11 (lv_at hl 4 rfl) ?_
      refine lv_aload_n hx hb dX3_rememberRow_13 rfl (lv_at hl 2 rfl) ?_
      refine va_get (D := (dC, dI)) (ci := 1) (v := .int s_q3.2.1) (C := RX1) (T := TX1) (N := 4) hx hb hU inlX1 hown hE.1 hP 3 rfl rfl 1 (by decide) (hU _ u_19_13) (fun _ h9 => h9) rfl dX3_rememberRow_14 ?_
      refine lv_icmp_ge (tgt := 46) hx hb dX3_rememberRow_17 (by decide) (fun c17 => ?_) (fun c17 => ?_)
      · have hM := ite_t c17 hM
        cases hM
        exact rt _ _ _ _ hP hS dX3_rememberRow_46 rfl
      · have hM := ite_f c17 hM
        refine lv_aload_n hx hb dX3_rememberRow_20 rfl (lv_at hl 0 rfl) ?_
        refine va_get (D := (dC, dI)) (ci := 3) (v := .ref a_t_acts) (C := RX3) (T := TX3) (N := 11) hx hb hU inlX3 hown hE.1 hP 0 rfl rfl 5 (by decide) (hU _ u_2_0) (fun _ h9 => h9) rfl dX3_rememberRow_21 ?_
        refine lv_iload hx hb dX3_rememberRow_24 (lv_at hl 3 rfl) ?_
        refine lv_iconst (v := (2 : Int32)) hx hb dX3_rememberRow_26 (by decide) ?_
        refine lv_iload hx hb dX3_rememberRow_27 (lv_at hl 4 rfl) ?_
        refine lv_iadd hx hb dX3_rememberRow_29 ?_
        refine lv_aload_n hx hb dX3_rememberRow_30 rfl (lv_at hl 2 rfl) ?_
        refine lv_iload_n hx hb dX3_rememberRow_31 rfl (lv_at hl 1 rfl) ?_
        refine lv_iload hx hb dX3_rememberRow_32 (lv_at hl 4 rfl) ?_
        obtain ⟨x34, h34, hM⟩ := bind_e hM
        refine rdV (As := [.int v2, .int v5_11]) (rest := [.int ((2 : Int32) + v5_11), .int x3.1, .ref a_t_acts]) (st2 := [.int x34, .int ((2 : Int32) + v5_11), .int x3.1, .ref a_t_acts]) ⟨hx, hb, hml, hown, hU⟩ hE (okX1_at a_q3 a_q3_cells s_q3 s_q3_cells v2 v5_11 x34 h34) lk_X3_118 (hP.sub [3, 4] rfl) rfl rfl rfl hl.1 rfl (Nat.le_of_ble_eq_true rfl) ⟨Nat.le_of_ble_eq_true rfl, Nat.le_of_ble_eq_true rfl⟩ dX3_rememberRow_34 ⟨Nat.le_refl _, Nat.le_refl _⟩ rfl ?_
        obtain ⟨x37, h37, hM⟩ := bind_e hM
        refine muV (As := [.int x3.1, .int ((2 : Int32) + v5_11), .int x34]) (rest := []) (st2 := []) (nw := [(a_t, .inr (3, [.ref a_t_papers, .ref a_t_now, .ref a_t_trial, .ref a_t_firstSlot, .ref a_t_secondSlot, .ref a_t_acts, .ref a_t_seen, .ref a_t_text, .ref a_t_doings, .int s_t.1, .long s_t.2])), (a_t_acts, .inr (1, [.int x3.2.1.1, .int x3.2.1.2.1, .ref a_t_acts_cells, .int x3.2.1.2.2])), (a_t_acts_cells, .inl (cI, x37.1, .inl x37.2)), (a_q3, .inr (1, [.int s_q3.1, .int s_q3.2.1, .ref a_q3_cells, .int s_q3.2.2])), (a_q3_cells, .inl (cI, s_q3_cells.1, .inl s_q3_cells.2))]) ⟨hx, hb, hml, hown, hU⟩ hE (okX1_put a_t_acts a_t_acts_cells x3.2.1 s_t_acts_cells_11 x3.1 ((2 : Int32) + v5_11) x34 x37 h37) lk_X3_179 hP hD hS hA [1, 2] rfl rfl rfl rfl rfl rfl hl.1 rfl (Nat.le_of_ble_eq_true rfl) ⟨Nat.le_of_ble_eq_true rfl, Nat.le_of_ble_eq_true rfl⟩ dX3_rememberRow_37 ⟨Nat.le_refl _, Nat.le_refl _⟩ rfl rfl rfl rfl (fun H locs hP hD hS => ?_)
        refine lv_iinc (v := (v5_11 + (1 : Int32))) (lv' := [(5, .int (v5_11 + (1 : Int32))), (0, .ref a_t), (2, .int v2), (3, .ref a_q3), (4, .int x3.1)]) hx hb dX3_rememberRow_40 hl (k := 4) rfl rfl (by decide) rfl (fun ls hl => ?_)
        refine lv_goto (tgt := 11) hx hb dX3_rememberRow_43 (by decide) ?_
        exact ih_11 (v5_11 + (1 : Int32)) x37 hM ls _ _ hP hD hS (lv_sub hl [1, 2, 3, 4, 0] rfl)
  exact w_11 FU (0 : Int32) x3.2.2 hM ls _ _ hP hD hS (lv_sub hl [2, 4, 5, 1, 0] rfl)
def mX3_revoke (s_t_papers : Int32 × Int32 × Int32) (s_t_now : Int32 × Int32 × Int32) (s_t_acts : Int32 × Int32 × Int32) (s_t_acts_cells : Ar) (v1 : Int32) : Option (Int32 × (Int32 × Int32 × Int32) × (Int32 × Int32 × Int32) × Ar) := (if v1 = 0 then some ((-1 : Int32), s_t_now, s_t_acts, s_t_acts_cells) else (mX1_has s_t_papers v1).bind (fun x9 => (if x9 = true then (mX3_remember s_t_acts s_t_acts_cells (5 : Int32) v1).bind (fun x35 => (mX3_bit (s_t_now.1 ^^^ ((1 : Int32) <<< (v1 &&& 31))) v1).bind (fun x47 => some (x47, ((s_t_now.1 ^^^ ((1 : Int32) <<< (v1 &&& 31))), s_t_now.2.1, s_t_now.2.2), x35.2.1, x35.2.2))) else some ((-1 : Int32), s_t_now, s_t_acts, s_t_acts_cells))))
set_option maxHeartbeats 4000000 in
set_option maxRecDepth 100000 in
theorem okX3_revoke {l : Launch} {dC : Nat → ClassId} {dI : Nat → Nat → Nat} {cI cC cZ : ClassId} (a_t a_t_papers a_t_now a_t_trial a_t_firstSlot a_t_secondSlot a_t_acts a_t_seen a_t_text a_t_doings a_t_papers_cells a_t_now_grants a_t_now_routes a_t_acts_cells : Nat) (s_t : Int32 × Int64) (s_t_papers : Int32 × Int32 × Int32) (s_t_now : Int32 × Int32 × Int32) (s_t_acts : Int32 × Int32 × Int32) (s_t_acts_cells : Ar) (v1 : Int32) (res : Int32 × (Int32 × Int32 × Int32) × (Int32 × Int32 × Int32) × Ar) (hM : mX3_revoke s_t_papers s_t_now s_t_acts s_t_acts_cells v1 = some res) : Mu l yX3_revoke cX3_revoke 2 (some .int) 3 84 (dC, dI) cI cC cZ [(a_t, .inr (3, [.ref a_t_papers, .ref a_t_now, .ref a_t_trial, .ref a_t_firstSlot, .ref a_t_secondSlot, .ref a_t_acts, .ref a_t_seen, .ref a_t_text, .ref a_t_doings, .int s_t.1, .long s_t.2])), (a_t_papers, .inr (1, [.int s_t_papers.1, .int s_t_papers.2.1, .ref a_t_papers_cells, .int s_t_papers.2.2])), (a_t_now, .inr (0, [.ref a_t_papers, .ref a_t_now_grants, .ref a_t_now_routes, .int s_t_now.1, .int s_t_now.2.1, .int s_t_now.2.2])), (a_t_acts, .inr (1, [.int s_t_acts.1, .int s_t_acts.2.1, .ref a_t_acts_cells, .int s_t_acts.2.2])), (a_t_acts_cells, .inl (cI, s_t_acts_cells.1, .inl s_t_acts_cells.2))] [(a_t, .inr (3, [.ref a_t_papers, .ref a_t_now, .ref a_t_trial, .ref a_t_firstSlot, .ref a_t_secondSlot, .ref a_t_acts, .ref a_t_seen, .ref a_t_text, .ref a_t_doings, .int s_t.1, .long s_t.2])), (a_t_papers, .inr (1, [.int s_t_papers.1, .int s_t_papers.2.1, .ref a_t_papers_cells, .int s_t_papers.2.2])), (a_t_now, .inr (0, [.ref a_t_papers, .ref a_t_now_grants, .ref a_t_now_routes, .int res.2.1.1, .int res.2.1.2.1, .int res.2.1.2.2])), (a_t_acts, .inr (1, [.int res.2.2.1.1, .int res.2.2.1.2.1, .ref a_t_acts_cells, .int res.2.2.1.2.2])), (a_t_acts_cells, .inl (cI, res.2.2.2.1, .inl res.2.2.2.2))] [.ref a_t, .int v1] (some (.int res.1)) := by
  refine Mu.ofI (by decide) (Nat.le_of_ble_eq_true rfl) [(0, .ref a_t), (1, .int v1)] rfl ?_
  intro p e s m args below meth c ls Q A hx hb hml hown hU hE hP hD hS hA rt hl
  have hown : s.vm.findClass RX3 = some m.cls := hown
  unfold mX3_revoke at hM
  refine lv_iload_n hx hb dX3_revoke_0 rfl (lv_at hl 1 rfl) ?_
  refine lv_if_eq (tgt := 15) hx hb dX3_revoke_1 (by decide) (fun c1 => ?_) (fun c1 => ?_)
  · have hM := ite_t c1 hM
    refine lv_iconst (v := (-1 : Int32)) hx hb dX3_revoke_15 (by decide) ?_
    cases hM
    exact rt _ _ _ _ _ hP hS dX3_revoke_16 rfl
  · have hM := ite_f c1 hM
    refine lv_aload_n hx hb dX3_revoke_4 rfl (lv_at hl 0 rfl) ?_
    refine va_get (D := (dC, dI)) (ci := 3) (v := .ref a_t_papers) (C := RX3) (T := TX3) (N := 11) hx hb hU inlX3 hown hE.1 hP 0 rfl rfl 0 (by decide) (hU _ u_1_16) (fun _ h9 => h9) rfl dX3_revoke_5 ?_
    refine lv_iload_n hx hb dX3_revoke_8 rfl (lv_at hl 1 rfl) ?_
    obtain ⟨x9, h9, hM⟩ := bind_e hM
    refine rdV (As := [.int v1]) (rest := []) (st2 := [.int (b2i x9)]) ⟨hx, hb, hml, hown, hU⟩ hE (okX1_has a_t_papers a_t_papers_cells s_t_papers v1 x9 h9) lk_X3_114 (hP.sub [1] rfl) rfl rfl rfl hl.1 rfl (Nat.le_of_ble_eq_true rfl) ⟨Nat.le_of_ble_eq_true rfl, Nat.le_of_ble_eq_true rfl⟩ dX3_revoke_9 ⟨Nat.le_refl _, Nat.le_refl _⟩ rfl ?_
    refine lv_if_ne (tgt := 17) hx hb dX3_revoke_12 (by decide) (fun c12 => ?_) (fun c12 => ?_)
    · have hM := ite_t (b2i_ne0 c12) hM
      refine lv_aload_n hx hb dX3_revoke_17 rfl (lv_at hl 0 rfl) ?_
      refine va_get (D := (dC, dI)) (ci := 3) (v := .ref a_t_now) (C := RX3) (T := TX3) (N := 11) hx hb hU inlX3 hown hE.1 hP 0 rfl rfl 1 (by decide) (hU _ u_1_20) (fun _ h9 => h9) rfl dX3_revoke_18 ?_
      refine lv_dup hx hb dX3_revoke_21 rfl ?_
      refine va_get (D := (dC, dI)) (ci := 0) (v := .int s_t_now.1) (C := RX0) (T := TX0) (N := 6) hx hb hU inlX0 hown hE.1 hP 2 rfl rfl 3 (by decide) (hU _ u_11_21) (fun _ h9 => h9) rfl dX3_revoke_22 ?_
      refine lv_iconst (v := (1 : Int32)) hx hb dX3_revoke_25 (by decide) ?_
      refine lv_iload_n hx hb dX3_revoke_26 rfl (lv_at hl 1 rfl) ?_
      refine lv_ishl hx hb dX3_revoke_27 ?_
      refine lv_ixor hx hb dX3_revoke_28 ?_
      refine va_put (D := (dC, dI)) (ci := 0) (v := .int (s_t_now.1 ^^^ ((1 : Int32) <<< (v1 &&& 31)))) (ty := .int) (C := RX0) (T := TX0) (N := 6) hx hb hU inlX0 tyX0 tyX0_ok nmX0 hown hE.1 hP hD hS 2 rfl rfl 3 (by decide) (hU _ u_11_21) (fun _ h9 => h9) rfl (tyX0_ok 3 (by decide)) rfl rfl (Nat.le_of_ble_eq_true rfl) dX3_revoke_29 (fun H locs hP hD hS => ?_)
      have hP : va_P (dC, dI) vwCl [(a_t, .inr (3, [.ref a_t_papers, .ref a_t_now, .ref a_t_trial, .ref a_t_firstSlot, .ref a_t_secondSlot, .ref a_t_acts, .ref a_t_seen, .ref a_t_text, .ref a_t_doings, .int s_t.1, .long s_t.2])), (a_t_papers, .inr (1, [.int s_t_papers.1, .int s_t_papers.2.1, .ref a_t_papers_cells, .int s_t_papers.2.2])), (a_t_now, .inr (0, [.ref a_t_papers, .ref a_t_now_grants, .ref a_t_now_routes, .int (s_t_now.1 ^^^ ((1 : Int32) <<< (v1 &&& 31))), .int s_t_now.2.1, .int s_t_now.2.2])), (a_t_acts, .inr (1, [.int s_t_acts.1, .int s_t_acts.2.1, .ref a_t_acts_cells, .int s_t_acts.2.2])), (a_t_acts_cells, .inl (cI, s_t_acts_cells.1, .inl s_t_acts_cells.2))] H := hP
      have hD : va_D A [(a_t, .inr (3, [.ref a_t_papers, .ref a_t_now, .ref a_t_trial, .ref a_t_firstSlot, .ref a_t_secondSlot, .ref a_t_acts, .ref a_t_seen, .ref a_t_text, .ref a_t_doings, .int s_t.1, .long s_t.2])), (a_t_papers, .inr (1, [.int s_t_papers.1, .int s_t_papers.2.1, .ref a_t_papers_cells, .int s_t_papers.2.2])), (a_t_now, .inr (0, [.ref a_t_papers, .ref a_t_now_grants, .ref a_t_now_routes, .int (s_t_now.1 ^^^ ((1 : Int32) <<< (v1 &&& 31))), .int s_t_now.2.1, .int s_t_now.2.2])), (a_t_acts, .inr (1, [.int s_t_acts.1, .int s_t_acts.2.1, .ref a_t_acts_cells, .int s_t_acts.2.2])), (a_t_acts_cells, .inl (cI, s_t_acts_cells.1, .inl s_t_acts_cells.2))] := hD
      refine lv_aload_n hx hb dX3_revoke_32 rfl (lv_at hl 0 rfl) ?_
      refine lv_iconst (v := (5 : Int32)) hx hb dX3_revoke_33 (by decide) ?_
      refine lv_iload_n hx hb dX3_revoke_34 rfl (lv_at hl 1 rfl) ?_
      obtain ⟨x35, h35, hM⟩ := bind_e hM
      refine muV (As := [.int (5 : Int32), .int v1]) (rest := []) (st2 := [.int x35.1]) (nw := [(a_t, .inr (3, [.ref a_t_papers, .ref a_t_now, .ref a_t_trial, .ref a_t_firstSlot, .ref a_t_secondSlot, .ref a_t_acts, .ref a_t_seen, .ref a_t_text, .ref a_t_doings, .int s_t.1, .long s_t.2])), (a_t_papers, .inr (1, [.int s_t_papers.1, .int s_t_papers.2.1, .ref a_t_papers_cells, .int s_t_papers.2.2])), (a_t_now, .inr (0, [.ref a_t_papers, .ref a_t_now_grants, .ref a_t_now_routes, .int (s_t_now.1 ^^^ ((1 : Int32) <<< (v1 &&& 31))), .int s_t_now.2.1, .int s_t_now.2.2])), (a_t_acts, .inr (1, [.int x35.2.1.1, .int x35.2.1.2.1, .ref a_t_acts_cells, .int x35.2.1.2.2])), (a_t_acts_cells, .inl (cI, x35.2.2.1, .inl x35.2.2.2))]) ⟨hx, hb, hml, hown, hU⟩ hE (okX3_remember a_t a_t_papers a_t_now a_t_trial a_t_firstSlot a_t_secondSlot a_t_acts a_t_seen a_t_text a_t_doings a_t_acts_cells s_t s_t_acts s_t_acts_cells (5 : Int32) v1 x35 h35) lk_X3_138 hP hD hS hA [0, 3, 4] rfl rfl rfl rfl rfl rfl hl.1 rfl (Nat.le_of_ble_eq_true rfl) ⟨Nat.le_of_ble_eq_true rfl, Nat.le_of_ble_eq_true rfl⟩ dX3_revoke_35 ⟨Nat.le_refl _, Nat.le_refl _⟩ rfl rfl rfl rfl (fun H locs hP hD hS => ?_)
      refine lv_pop hx hb dX3_revoke_38 rfl ?_
      refine lv_aload_n hx hb dX3_revoke_39 rfl (lv_at hl 0 rfl) ?_
      refine va_get (D := (dC, dI)) (ci := 3) (v := .ref a_t_now) (C := RX3) (T := TX3) (N := 11) hx hb hU inlX3 hown hE.1 hP 0 rfl rfl 1 (by decide) (hU _ u_1_20) (fun _ h9 => h9) rfl dX3_revoke_40 ?_
      refine va_get (D := (dC, dI)) (ci := 0) (v := .int (s_t_now.1 ^^^ ((1 : Int32) <<< (v1 &&& 31)))) (C := RX0) (T := TX0) (N := 6) hx hb hU inlX0 hown hE.1 hP 2 rfl rfl 3 (by decide) (hU _ u_11_21) (fun _ h9 => h9) rfl dX3_revoke_43 ?_
      refine lv_iload_n hx hb dX3_revoke_46 rfl (lv_at hl 1 rfl) ?_
      obtain ⟨x47, h47, hM⟩ := bind_e hM
      refine rdS (As := [.int (s_t_now.1 ^^^ ((1 : Int32) <<< (v1 &&& 31))), .int v1]) (rest := []) (st2 := [.int x47]) ⟨hx, hb, hml, hown, hU⟩ hE (okX3_bit (s_t_now.1 ^^^ ((1 : Int32) <<< (v1 &&& 31))) v1 x47 h47) lk_X3_121 (hP.sub [] rfl) rfl hl.1 rfl (Nat.le_of_ble_eq_true rfl) ⟨Nat.le_of_ble_eq_true rfl, Nat.le_of_ble_eq_true rfl⟩ dX3_revoke_47 ⟨Nat.le_refl _, Nat.le_refl _⟩ rfl ?_
      cases hM
      exact rt _ _ _ _ _ hP hS dX3_revoke_50 rfl
    · have hM := ite_f (b2i_eq0 c12) hM
      refine lv_iconst (v := (-1 : Int32)) hx hb dX3_revoke_15 (by decide) ?_
      cases hM
      exact rt _ _ _ _ _ hP hS dX3_revoke_16 rfl
def mX3_route (s_t_now : Int32 × Int32 × Int32) (s_t_now_routes : Int32 × Int32 × Int32) (s_t_now_routes_cells : Ar) (s_t_papers : Int32 × Int32 × Int32) (s_t_papers_cells : Ar) (s_t_now_grants : Int32 × Int32 × Int32) (s_t_now_grants_cells : Ar) (v1 : Int32) (v2 : Int32) : Option (Int32) := (mX1_has s_t_now_routes v1).bind (fun x8 => (if x8 = true then (if v2 = (0 : Int32) then (mX1_at s_t_now_routes s_t_now_routes_cells v1 (0 : Int32)).bind (fun x61 => some (x61)) else (if v2 = (1 : Int32) then (mX1_at s_t_now_routes s_t_now_routes_cells v1 (1 : Int32)).bind (fun x74 => some (x74)) else (if v2 = (2 : Int32) then (mX1_at s_t_now_routes s_t_now_routes_cells v1 (3 : Int32)).bind (fun x87 => some (x87)) else (if v2 = (3 : Int32) then (mX1_at s_t_now_routes s_t_now_routes_cells v1 (2 : Int32)).bind (fun x104 => (mX1_at s_t_now_routes s_t_now_routes_cells v1 (1 : Int32)).bind (fun x116 => (mX1_at s_t_now_routes s_t_now_routes_cells v1 (3 : Int32)).bind (fun x128 => (mX0_countingNow s_t_now s_t_papers s_t_papers_cells s_t_now_grants s_t_now_grants_cells).bind (fun x135 => (mX0_stateOf s_t_now_grants s_t_now_grants_cells x104 x116 x128 x135).bind (fun x138 => some (x138)))))) else (if v2 = (4 : Int32) then (mX0_makerOf s_t_now s_t_papers s_t_papers_cells s_t_now_routes s_t_now_routes_cells v1).bind (fun x147 => some (x147)) else some ((-2 : Int32))))))) else some ((-1 : Int32))))
set_option maxHeartbeats 4000000 in
set_option maxRecDepth 100000 in
theorem okX3_route {l : Launch} {dC : Nat → ClassId} {dI : Nat → Nat → Nat} {cI cC cZ : ClassId} (a_t a_t_papers a_t_now a_t_trial a_t_firstSlot a_t_secondSlot a_t_acts a_t_seen a_t_text a_t_doings a_t_now_grants a_t_now_routes a_t_now_routes_cells a_t_papers_cells a_t_now_grants_cells : Nat) (s_t : Int32 × Int64) (s_t_now : Int32 × Int32 × Int32) (s_t_now_routes : Int32 × Int32 × Int32) (s_t_now_routes_cells : Ar) (s_t_papers : Int32 × Int32 × Int32) (s_t_papers_cells : Ar) (s_t_now_grants : Int32 × Int32 × Int32) (s_t_now_grants_cells : Ar) (v1 : Int32) (v2 : Int32) (res : Int32) (hM : mX3_route s_t_now s_t_now_routes s_t_now_routes_cells s_t_papers s_t_papers_cells s_t_now_grants s_t_now_grants_cells v1 v2 = some res) : Rd l yX3_route cX3_route 3 (some .int) 3 70 (dC, dI) cI cC cZ [(a_t, .inr (3, [.ref a_t_papers, .ref a_t_now, .ref a_t_trial, .ref a_t_firstSlot, .ref a_t_secondSlot, .ref a_t_acts, .ref a_t_seen, .ref a_t_text, .ref a_t_doings, .int s_t.1, .long s_t.2])), (a_t_now, .inr (0, [.ref a_t_papers, .ref a_t_now_grants, .ref a_t_now_routes, .int s_t_now.1, .int s_t_now.2.1, .int s_t_now.2.2])), (a_t_now_routes, .inr (1, [.int s_t_now_routes.1, .int s_t_now_routes.2.1, .ref a_t_now_routes_cells, .int s_t_now_routes.2.2])), (a_t_now_routes_cells, .inl (cI, s_t_now_routes_cells.1, .inl s_t_now_routes_cells.2)), (a_t_papers, .inr (1, [.int s_t_papers.1, .int s_t_papers.2.1, .ref a_t_papers_cells, .int s_t_papers.2.2])), (a_t_papers_cells, .inl (cI, s_t_papers_cells.1, .inl s_t_papers_cells.2)), (a_t_now_grants, .inr (1, [.int s_t_now_grants.1, .int s_t_now_grants.2.1, .ref a_t_now_grants_cells, .int s_t_now_grants.2.2])), (a_t_now_grants_cells, .inl (cI, s_t_now_grants_cells.1, .inl s_t_now_grants_cells.2))] [.ref a_t, .int v1, .int v2] (some (.int res)) := by
  refine Rd.ofI (by decide) (Nat.le_of_ble_eq_true rfl) [(0, .ref a_t), (1, .int v1), (2, .int v2)] rfl ?_
  intro p e s m args below meth c ls Q hx hb hml hown hU hE hP rt hl
  have hown : s.vm.findClass RX3 = some m.cls := hown
  unfold mX3_route at hM
  refine lv_aload_n hx hb dX3_route_0 rfl (lv_at hl 0 rfl) ?_
  refine va_get (D := (dC, dI)) (ci := 3) (v := .ref a_t_now) (C := RX3) (T := TX3) (N := 11) hx hb hU inlX3 hown hE.1 hP 0 rfl rfl 1 (by decide) (hU _ u_1_20) (fun _ h9 => h9) rfl dX3_route_1 ?_
  refine va_get (D := (dC, dI)) (ci := 0) (v := .ref a_t_now_routes) (C := RX0) (T := TX0) (N := 6) hx hb hU inlX0 hown hE.1 hP 1 rfl rfl 2 (by decide) (hU _ u_11_19) (fun _ h9 => h9) rfl dX3_route_4 ?_
  refine lv_iload_n hx hb dX3_route_7 rfl (lv_at hl 1 rfl) ?_
  obtain ⟨x8, h8, hM⟩ := bind_e hM
  refine rdV (As := [.int v1]) (rest := []) (st2 := [.int (b2i x8)]) ⟨hx, hb, hml, hown, hU⟩ hE (okX1_has a_t_now_routes a_t_now_routes_cells s_t_now_routes v1 x8 h8) lk_X3_114 (hP.sub [2] rfl) rfl rfl rfl hl.1 rfl (Nat.le_of_ble_eq_true rfl) ⟨Nat.le_of_ble_eq_true rfl, Nat.le_of_ble_eq_true rfl⟩ dX3_route_8 ⟨Nat.le_refl _, Nat.le_refl _⟩ rfl ?_
  refine lv_if_ne (tgt := 16) hx hb dX3_route_11 (by decide) (fun c11 => ?_) (fun c11 => ?_)
  · have hM := ite_t (b2i_ne0 c11) hM
    refine lv_iload_n hx hb dX3_route_16 rfl (lv_at hl 2 rfl) ?_
    by_cases c17_0 : v2 = (0 : Int32)
    · have hM := ite_t c17_0 hM
      refine lv_tableIn (off := 35) (tgt := 52) hx hb dX3_route_17 (by rw [c17_0]; decide) (by rw [c17_0]; decide) (by rw [c17_0]; rfl) (by decide) ?_
      refine lv_aload_n hx hb dX3_route_52 rfl (lv_at hl 0 rfl) ?_
      refine va_get (D := (dC, dI)) (ci := 3) (v := .ref a_t_now) (C := RX3) (T := TX3) (N := 11) hx hb hU inlX3 hown hE.1 hP 0 rfl rfl 1 (by decide) (hU _ u_1_20) (fun _ h9 => h9) rfl dX3_route_53 ?_
      refine va_get (D := (dC, dI)) (ci := 0) (v := .ref a_t_now_routes) (C := RX0) (T := TX0) (N := 6) hx hb hU inlX0 hown hE.1 hP 1 rfl rfl 2 (by decide) (hU _ u_11_19) (fun _ h9 => h9) rfl dX3_route_56 ?_
      refine lv_iload_n hx hb dX3_route_59 rfl (lv_at hl 1 rfl) ?_
      refine lv_iconst (v := (0 : Int32)) hx hb dX3_route_60 (by decide) ?_
      obtain ⟨x61, h61, hM⟩ := bind_e hM
      refine rdV (As := [.int v1, .int (0 : Int32)]) (rest := []) (st2 := [.int x61]) ⟨hx, hb, hml, hown, hU⟩ hE (okX1_at a_t_now_routes a_t_now_routes_cells s_t_now_routes s_t_now_routes_cells v1 (0 : Int32) x61 h61) lk_X3_118 (hP.sub [2, 3] rfl) rfl rfl rfl hl.1 rfl (Nat.le_of_ble_eq_true rfl) ⟨Nat.le_of_ble_eq_true rfl, Nat.le_of_ble_eq_true rfl⟩ dX3_route_61 ⟨Nat.le_refl _, Nat.le_refl _⟩ rfl ?_
      cases hM
      exact rt _ _ _ dX3_route_64 rfl
    have hM := ite_f c17_0 hM
    by_cases c17_1 : v2 = (1 : Int32)
    · have hM := ite_t c17_1 hM
      refine lv_tableIn (off := 48) (tgt := 65) hx hb dX3_route_17 (by rw [c17_1]; decide) (by rw [c17_1]; decide) (by rw [c17_1]; rfl) (by decide) ?_
      refine lv_aload_n hx hb dX3_route_65 rfl (lv_at hl 0 rfl) ?_
      refine va_get (D := (dC, dI)) (ci := 3) (v := .ref a_t_now) (C := RX3) (T := TX3) (N := 11) hx hb hU inlX3 hown hE.1 hP 0 rfl rfl 1 (by decide) (hU _ u_1_20) (fun _ h9 => h9) rfl dX3_route_66 ?_
      refine va_get (D := (dC, dI)) (ci := 0) (v := .ref a_t_now_routes) (C := RX0) (T := TX0) (N := 6) hx hb hU inlX0 hown hE.1 hP 1 rfl rfl 2 (by decide) (hU _ u_11_19) (fun _ h9 => h9) rfl dX3_route_69 ?_
      refine lv_iload_n hx hb dX3_route_72 rfl (lv_at hl 1 rfl) ?_
      refine lv_iconst (v := (1 : Int32)) hx hb dX3_route_73 (by decide) ?_
      obtain ⟨x74, h74, hM⟩ := bind_e hM
      refine rdV (As := [.int v1, .int (1 : Int32)]) (rest := []) (st2 := [.int x74]) ⟨hx, hb, hml, hown, hU⟩ hE (okX1_at a_t_now_routes a_t_now_routes_cells s_t_now_routes s_t_now_routes_cells v1 (1 : Int32) x74 h74) lk_X3_118 (hP.sub [2, 3] rfl) rfl rfl rfl hl.1 rfl (Nat.le_of_ble_eq_true rfl) ⟨Nat.le_of_ble_eq_true rfl, Nat.le_of_ble_eq_true rfl⟩ dX3_route_74 ⟨Nat.le_refl _, Nat.le_refl _⟩ rfl ?_
      cases hM
      exact rt _ _ _ dX3_route_77 rfl
    have hM := ite_f c17_1 hM
    by_cases c17_2 : v2 = (2 : Int32)
    · have hM := ite_t c17_2 hM
      refine lv_tableIn (off := 61) (tgt := 78) hx hb dX3_route_17 (by rw [c17_2]; decide) (by rw [c17_2]; decide) (by rw [c17_2]; rfl) (by decide) ?_
      refine lv_aload_n hx hb dX3_route_78 rfl (lv_at hl 0 rfl) ?_
      refine va_get (D := (dC, dI)) (ci := 3) (v := .ref a_t_now) (C := RX3) (T := TX3) (N := 11) hx hb hU inlX3 hown hE.1 hP 0 rfl rfl 1 (by decide) (hU _ u_1_20) (fun _ h9 => h9) rfl dX3_route_79 ?_
      refine va_get (D := (dC, dI)) (ci := 0) (v := .ref a_t_now_routes) (C := RX0) (T := TX0) (N := 6) hx hb hU inlX0 hown hE.1 hP 1 rfl rfl 2 (by decide) (hU _ u_11_19) (fun _ h9 => h9) rfl dX3_route_82 ?_
      refine lv_iload_n hx hb dX3_route_85 rfl (lv_at hl 1 rfl) ?_
      refine lv_iconst (v := (3 : Int32)) hx hb dX3_route_86 (by decide) ?_
      obtain ⟨x87, h87, hM⟩ := bind_e hM
      refine rdV (As := [.int v1, .int (3 : Int32)]) (rest := []) (st2 := [.int x87]) ⟨hx, hb, hml, hown, hU⟩ hE (okX1_at a_t_now_routes a_t_now_routes_cells s_t_now_routes s_t_now_routes_cells v1 (3 : Int32) x87 h87) lk_X3_118 (hP.sub [2, 3] rfl) rfl rfl rfl hl.1 rfl (Nat.le_of_ble_eq_true rfl) ⟨Nat.le_of_ble_eq_true rfl, Nat.le_of_ble_eq_true rfl⟩ dX3_route_87 ⟨Nat.le_refl _, Nat.le_refl _⟩ rfl ?_
      cases hM
      exact rt _ _ _ dX3_route_90 rfl
    have hM := ite_f c17_2 hM
    by_cases c17_3 : v2 = (3 : Int32)
    · have hM := ite_t c17_3 hM
      refine lv_tableIn (off := 74) (tgt := 91) hx hb dX3_route_17 (by rw [c17_3]; decide) (by rw [c17_3]; decide) (by rw [c17_3]; rfl) (by decide) ?_
      refine lv_aload_n hx hb dX3_route_91 rfl (lv_at hl 0 rfl) ?_
      refine va_get (D := (dC, dI)) (ci := 3) (v := .ref a_t_now) (C := RX3) (T := TX3) (N := 11) hx hb hU inlX3 hown hE.1 hP 0 rfl rfl 1 (by decide) (hU _ u_1_20) (fun _ h9 => h9) rfl dX3_route_92 ?_
      refine lv_aload_n hx hb dX3_route_95 rfl (lv_at hl 0 rfl) ?_
      refine va_get (D := (dC, dI)) (ci := 3) (v := .ref a_t_now) (C := RX3) (T := TX3) (N := 11) hx hb hU inlX3 hown hE.1 hP 0 rfl rfl 1 (by decide) (hU _ u_1_20) (fun _ h9 => h9) rfl dX3_route_96 ?_
      refine va_get (D := (dC, dI)) (ci := 0) (v := .ref a_t_now_routes) (C := RX0) (T := TX0) (N := 6) hx hb hU inlX0 hown hE.1 hP 1 rfl rfl 2 (by decide) (hU _ u_11_19) (fun _ h9 => h9) rfl dX3_route_99 ?_
      refine lv_iload_n hx hb dX3_route_102 rfl (lv_at hl 1 rfl) ?_
      refine lv_iconst (v := (2 : Int32)) hx hb dX3_route_103 (by decide) ?_
      obtain ⟨x104, h104, hM⟩ := bind_e hM
      refine rdV (As := [.int v1, .int (2 : Int32)]) (rest := [.ref a_t_now]) (st2 := [.int x104, .ref a_t_now]) ⟨hx, hb, hml, hown, hU⟩ hE (okX1_at a_t_now_routes a_t_now_routes_cells s_t_now_routes s_t_now_routes_cells v1 (2 : Int32) x104 h104) lk_X3_118 (hP.sub [2, 3] rfl) rfl rfl rfl hl.1 rfl (Nat.le_of_ble_eq_true rfl) ⟨Nat.le_of_ble_eq_true rfl, Nat.le_of_ble_eq_true rfl⟩ dX3_route_104 ⟨Nat.le_refl _, Nat.le_refl _⟩ rfl ?_
      refine lv_aload_n hx hb dX3_route_107 rfl (lv_at hl 0 rfl) ?_
      refine va_get (D := (dC, dI)) (ci := 3) (v := .ref a_t_now) (C := RX3) (T := TX3) (N := 11) hx hb hU inlX3 hown hE.1 hP 0 rfl rfl 1 (by decide) (hU _ u_1_20) (fun _ h9 => h9) rfl dX3_route_108 ?_
      refine va_get (D := (dC, dI)) (ci := 0) (v := .ref a_t_now_routes) (C := RX0) (T := TX0) (N := 6) hx hb hU inlX0 hown hE.1 hP 1 rfl rfl 2 (by decide) (hU _ u_11_19) (fun _ h9 => h9) rfl dX3_route_111 ?_
      refine lv_iload_n hx hb dX3_route_114 rfl (lv_at hl 1 rfl) ?_
      refine lv_iconst (v := (1 : Int32)) hx hb dX3_route_115 (by decide) ?_
      obtain ⟨x116, h116, hM⟩ := bind_e hM
      refine rdV (As := [.int v1, .int (1 : Int32)]) (rest := [.int x104, .ref a_t_now]) (st2 := [.int x116, .int x104, .ref a_t_now]) ⟨hx, hb, hml, hown, hU⟩ hE (okX1_at a_t_now_routes a_t_now_routes_cells s_t_now_routes s_t_now_routes_cells v1 (1 : Int32) x116 h116) lk_X3_118 (hP.sub [2, 3] rfl) rfl rfl rfl hl.1 rfl (Nat.le_of_ble_eq_true rfl) ⟨Nat.le_of_ble_eq_true rfl, Nat.le_of_ble_eq_true rfl⟩ dX3_route_116 ⟨Nat.le_refl _, Nat.le_refl _⟩ rfl ?_
      refine lv_aload_n hx hb dX3_route_119 rfl (lv_at hl 0 rfl) ?_
      refine va_get (D := (dC, dI)) (ci := 3) (v := .ref a_t_now) (C := RX3) (T := TX3) (N := 11) hx hb hU inlX3 hown hE.1 hP 0 rfl rfl 1 (by decide) (hU _ u_1_20) (fun _ h9 => h9) rfl dX3_route_120 ?_
      refine va_get (D := (dC, dI)) (ci := 0) (v := .ref a_t_now_routes) (C := RX0) (T := TX0) (N := 6) hx hb hU inlX0 hown hE.1 hP 1 rfl rfl 2 (by decide) (hU _ u_11_19) (fun _ h9 => h9) rfl dX3_route_123 ?_
      refine lv_iload_n hx hb dX3_route_126 rfl (lv_at hl 1 rfl) ?_
      refine lv_iconst (v := (3 : Int32)) hx hb dX3_route_127 (by decide) ?_
      obtain ⟨x128, h128, hM⟩ := bind_e hM
      refine rdV (As := [.int v1, .int (3 : Int32)]) (rest := [.int x116, .int x104, .ref a_t_now]) (st2 := [.int x128, .int x116, .int x104, .ref a_t_now]) ⟨hx, hb, hml, hown, hU⟩ hE (okX1_at a_t_now_routes a_t_now_routes_cells s_t_now_routes s_t_now_routes_cells v1 (3 : Int32) x128 h128) lk_X3_118 (hP.sub [2, 3] rfl) rfl rfl rfl hl.1 rfl (Nat.le_of_ble_eq_true rfl) ⟨Nat.le_of_ble_eq_true rfl, Nat.le_of_ble_eq_true rfl⟩ dX3_route_128 ⟨Nat.le_refl _, Nat.le_refl _⟩ rfl ?_
      refine lv_aload_n hx hb dX3_route_131 rfl (lv_at hl 0 rfl) ?_
      refine va_get (D := (dC, dI)) (ci := 3) (v := .ref a_t_now) (C := RX3) (T := TX3) (N := 11) hx hb hU inlX3 hown hE.1 hP 0 rfl rfl 1 (by decide) (hU _ u_1_20) (fun _ h9 => h9) rfl dX3_route_132 ?_
      obtain ⟨x135, h135, hM⟩ := bind_e hM
      refine rdV (As := []) (rest := [.int x128, .int x116, .int x104, .ref a_t_now]) (st2 := [.int x135, .int x128, .int x116, .int x104, .ref a_t_now]) ⟨hx, hb, hml, hown, hU⟩ hE (okX0_countingNow a_t_now a_t_papers a_t_now_grants a_t_now_routes a_t_papers_cells a_t_now_grants_cells s_t_now s_t_papers s_t_papers_cells s_t_now_grants s_t_now_grants_cells x135 h135) lk_X3_104 (hP.sub [1, 4, 5, 6, 7] rfl) rfl rfl rfl hl.1 rfl (Nat.le_of_ble_eq_true rfl) ⟨Nat.le_of_ble_eq_true rfl, Nat.le_of_ble_eq_true rfl⟩ dX3_route_135 ⟨Nat.le_refl _, Nat.le_refl _⟩ rfl ?_
      obtain ⟨x138, h138, hM⟩ := bind_e hM
      refine rdV (As := [.int x104, .int x116, .int x128, .int x135]) (rest := []) (st2 := [.int x138]) ⟨hx, hb, hml, hown, hU⟩ hE (okX0_stateOf a_t_now a_t_papers a_t_now_grants a_t_now_routes a_t_now_grants_cells s_t_now s_t_now_grants s_t_now_grants_cells x104 x116 x128 x135 x138 h138) lk_X3_124 (hP.sub [1, 6, 7] rfl) rfl rfl rfl hl.1 rfl (Nat.le_of_ble_eq_true rfl) ⟨Nat.le_of_ble_eq_true rfl, Nat.le_of_ble_eq_true rfl⟩ dX3_route_138 ⟨Nat.le_refl _, Nat.le_refl _⟩ rfl ?_
      cases hM
      exact rt _ _ _ dX3_route_141 rfl
    have hM := ite_f c17_3 hM
    by_cases c17_4 : v2 = (4 : Int32)
    · have hM := ite_t c17_4 hM
      refine lv_tableIn (off := 125) (tgt := 142) hx hb dX3_route_17 (by rw [c17_4]; decide) (by rw [c17_4]; decide) (by rw [c17_4]; rfl) (by decide) ?_
      refine lv_aload_n hx hb dX3_route_142 rfl (lv_at hl 0 rfl) ?_
      refine va_get (D := (dC, dI)) (ci := 3) (v := .ref a_t_now) (C := RX3) (T := TX3) (N := 11) hx hb hU inlX3 hown hE.1 hP 0 rfl rfl 1 (by decide) (hU _ u_1_20) (fun _ h9 => h9) rfl dX3_route_143 ?_
      refine lv_iload_n hx hb dX3_route_146 rfl (lv_at hl 1 rfl) ?_
      obtain ⟨x147, h147, hM⟩ := bind_e hM
      refine rdV (As := [.int v1]) (rest := []) (st2 := [.int x147]) ⟨hx, hb, hml, hown, hU⟩ hE (okX0_makerOf a_t_now a_t_papers a_t_now_grants a_t_now_routes a_t_papers_cells a_t_now_routes_cells s_t_now s_t_papers s_t_papers_cells s_t_now_routes s_t_now_routes_cells v1 x147 h147) lk_X3_128 (hP.sub [1, 4, 5, 2, 3] rfl) rfl rfl rfl hl.1 rfl (Nat.le_of_ble_eq_true rfl) ⟨Nat.le_of_ble_eq_true rfl, Nat.le_of_ble_eq_true rfl⟩ dX3_route_147 ⟨Nat.le_refl _, Nat.le_refl _⟩ rfl ?_
      cases hM
      exact rt _ _ _ dX3_route_150 rfl
    have hM := ite_f c17_4 hM
    refine lv_tableOut (tgt := 151) hx hb dX3_route_17 (sw_out (fun v h1 h2 h3 => by rcases (show v = 0 ∨ v = 1 ∨ v = 2 ∨ v = 3 ∨ v = 4 by omega) with rfl | rfl | rfl | rfl | rfl <;> first | exact c17_0 (Int32.toInt_inj.mp (h3.trans (by decide))) | exact c17_1 (Int32.toInt_inj.mp (h3.trans (by decide))) | exact c17_2 (Int32.toInt_inj.mp (h3.trans (by decide))) | exact c17_3 (Int32.toInt_inj.mp (h3.trans (by decide))) | exact c17_4 (Int32.toInt_inj.mp (h3.trans (by decide))))) (by decide) ?_
    refine lv_bipush (v := (-2 : Int32)) hx hb dX3_route_151 (by decide) ?_
    cases hM
    exact rt _ _ _ dX3_route_153 rfl
  · have hM := ite_f (b2i_eq0 c11) hM
    refine lv_iconst (v := (-1 : Int32)) hx hb dX3_route_14 (by decide) ?_
    cases hM
    exact rt _ _ _ dX3_route_15 rfl
def mX3_see (s_t_seen : Int32 × Int32 × Int32) (s_t_seen_cells : Ar) (v1 : Int32) (v2 : Int32) (v3 : Int32) (v4 : Int32) : Option (Int32 × (Int32 × Int32 × Int32) × Ar) := (mX3_isRange v1 v2).bind (fun x2 => (if x2 = true then (if v4 < 0 then some ((-2 : Int32), s_t_seen, s_t_seen_cells) else (if v4 ≤ (2 : Int32) then (mX3_isOrigin v3).bind (fun x23 => (if x23 = true then (if s_t_seen.2.2 < (6 : Int32) then (mX1_addRange s_t_seen s_t_seen_cells v1 v2 v3 v4 (0 : Int32)).bind (fun x56 => some (x56.2.1.2.2, x56.2.1, x56.2.2)) else some ((-4 : Int32), s_t_seen, s_t_seen_cells)) else some ((-1 : Int32), s_t_seen, s_t_seen_cells))) else some ((-2 : Int32), s_t_seen, s_t_seen_cells))) else some ((-2 : Int32), s_t_seen, s_t_seen_cells)))
set_option maxHeartbeats 4000000 in
set_option maxRecDepth 100000 in
theorem okX3_see {l : Launch} {dC : Nat → ClassId} {dI : Nat → Nat → Nat} {cI cC cZ : ClassId} (a_t a_t_papers a_t_now a_t_trial a_t_firstSlot a_t_secondSlot a_t_acts a_t_seen a_t_text a_t_doings a_t_seen_cells : Nat) (s_t : Int32 × Int64) (s_t_seen : Int32 × Int32 × Int32) (s_t_seen_cells : Ar) (v1 : Int32) (v2 : Int32) (v3 : Int32) (v4 : Int32) (res : Int32 × (Int32 × Int32 × Int32) × Ar) (hM : mX3_see s_t_seen s_t_seen_cells v1 v2 v3 v4 = some res) : Mu l yX3_see cX3_see 5 (some .int) 3 87 (dC, dI) cI cC cZ [(a_t, .inr (3, [.ref a_t_papers, .ref a_t_now, .ref a_t_trial, .ref a_t_firstSlot, .ref a_t_secondSlot, .ref a_t_acts, .ref a_t_seen, .ref a_t_text, .ref a_t_doings, .int s_t.1, .long s_t.2])), (a_t_seen, .inr (1, [.int s_t_seen.1, .int s_t_seen.2.1, .ref a_t_seen_cells, .int s_t_seen.2.2])), (a_t_seen_cells, .inl (cI, s_t_seen_cells.1, .inl s_t_seen_cells.2))] [(a_t, .inr (3, [.ref a_t_papers, .ref a_t_now, .ref a_t_trial, .ref a_t_firstSlot, .ref a_t_secondSlot, .ref a_t_acts, .ref a_t_seen, .ref a_t_text, .ref a_t_doings, .int s_t.1, .long s_t.2])), (a_t_seen, .inr (1, [.int res.2.1.1, .int res.2.1.2.1, .ref a_t_seen_cells, .int res.2.1.2.2])), (a_t_seen_cells, .inl (cI, res.2.2.1, .inl res.2.2.2))] [.ref a_t, .int v1, .int v2, .int v3, .int v4] (some (.int res.1)) := by
  refine Mu.ofI (by decide) (Nat.le_of_ble_eq_true rfl) [(0, .ref a_t), (1, .int v1), (2, .int v2), (3, .int v3), (4, .int v4)] rfl ?_
  intro p e s m args below meth c ls Q A hx hb hml hown hU hE hP hD hS hA rt hl
  have hown : s.vm.findClass RX3 = some m.cls := hown
  unfold mX3_see at hM
  refine lv_iload_n hx hb dX3_see_0 rfl (lv_at hl 1 rfl) ?_
  refine lv_iload_n hx hb dX3_see_1 rfl (lv_at hl 2 rfl) ?_
  obtain ⟨x2, h2, hM⟩ := bind_e hM
  refine rdS (As := [.int v1, .int v2]) (rest := []) (st2 := [.int (b2i x2)]) ⟨hx, hb, hml, hown, hU⟩ hE (okX3_isRange v1 v2 x2 h2) lk_X3_131 (hP.sub [] rfl) rfl hl.1 rfl (Nat.le_of_ble_eq_true rfl) ⟨Nat.le_of_ble_eq_true rfl, Nat.le_of_ble_eq_true rfl⟩ dX3_see_2 ⟨Nat.le_refl _, Nat.le_refl _⟩ rfl ?_
  refine lv_if_eq (tgt := 19) hx hb dX3_see_5 (by decide) (fun c5 => ?_) (fun c5 => ?_)
  · have hM := ite_f (b2i_eq0 c5) hM
    refine lv_bipush (v := (-2 : Int32)) hx hb dX3_see_19 (by decide) ?_
    cases hM
    exact rt _ _ _ _ _ hP hS dX3_see_21 rfl
  · have hM := ite_t (b2i_ne0 c5) hM
    refine lv_iload hx hb dX3_see_8 (lv_at hl 4 rfl) ?_
    refine lv_if_lt (tgt := 19) hx hb dX3_see_10 (by decide) (fun c10 => ?_) (fun c10 => ?_)
    · have hM := ite_t c10 hM
      refine lv_bipush (v := (-2 : Int32)) hx hb dX3_see_19 (by decide) ?_
      cases hM
      exact rt _ _ _ _ _ hP hS dX3_see_21 rfl
    · have hM := ite_f c10 hM
      refine lv_iload hx hb dX3_see_13 (lv_at hl 4 rfl) ?_
      refine lv_iconst (v := (2 : Int32)) hx hb dX3_see_15 (by decide) ?_
      refine lv_icmp_le (tgt := 22) hx hb dX3_see_16 (by decide) (fun c16 => ?_) (fun c16 => ?_)
      · have hM := ite_t c16 hM
        refine lv_iload_n hx hb dX3_see_22 rfl (lv_at hl 3 rfl) ?_
        obtain ⟨x23, h23, hM⟩ := bind_e hM
        refine rdS (As := [.int v3]) (rest := []) (st2 := [.int (b2i x23)]) ⟨hx, hb, hml, hown, hU⟩ hE (okX3_isOrigin v3 x23 h23) lk_X3_135 (hP.sub [] rfl) rfl hl.1 rfl (Nat.le_of_ble_eq_true rfl) ⟨Nat.le_of_ble_eq_true rfl, Nat.le_of_ble_eq_true rfl⟩ dX3_see_23 ⟨Nat.le_refl _, Nat.le_refl _⟩ rfl ?_
        refine lv_if_ne (tgt := 31) hx hb dX3_see_26 (by decide) (fun c26 => ?_) (fun c26 => ?_)
        · have hM := ite_t (b2i_ne0 c26) hM
          refine lv_aload_n hx hb dX3_see_31 rfl (lv_at hl 0 rfl) ?_
          refine va_get (D := (dC, dI)) (ci := 3) (v := .ref a_t_seen) (C := RX3) (T := TX3) (N := 11) hx hb hU inlX3 hown hE.1 hP 0 rfl rfl 6 (by decide) (hU _ u_2_1) (fun _ h9 => h9) rfl dX3_see_32 ?_
          refine va_get (D := (dC, dI)) (ci := 1) (v := .int s_t_seen.2.2) (C := RX1) (T := TX1) (N := 4) hx hb hU inlX1 hown hE.1 hP 1 rfl rfl 3 (by decide) (hU _ u_10_16) (fun _ h9 => h9) rfl dX3_see_35 ?_
          refine lv_bipush (v := (6 : Int32)) hx hb dX3_see_38 (by decide) ?_
          refine lv_icmp_lt (tgt := 46) hx hb dX3_see_40 (by decide) (fun c40 => ?_) (fun c40 => ?_)
          · have hM := ite_t c40 hM
            refine lv_aload_n hx hb dX3_see_46 rfl (lv_at hl 0 rfl) ?_
            refine va_get (D := (dC, dI)) (ci := 3) (v := .ref a_t_seen) (C := RX3) (T := TX3) (N := 11) hx hb hU inlX3 hown hE.1 hP 0 rfl rfl 6 (by decide) (hU _ u_2_1) (fun _ h9 => h9) rfl dX3_see_47 ?_
            refine lv_iload_n hx hb dX3_see_50 rfl (lv_at hl 1 rfl) ?_
            refine lv_iload_n hx hb dX3_see_51 rfl (lv_at hl 2 rfl) ?_
            refine lv_iload_n hx hb dX3_see_52 rfl (lv_at hl 3 rfl) ?_
            refine lv_iload hx hb dX3_see_53 (lv_at hl 4 rfl) ?_
            refine lv_iconst (v := (0 : Int32)) hx hb dX3_see_55 (by decide) ?_
            obtain ⟨x56, h56, hM⟩ := bind_e hM
            refine muV (As := [.int v1, .int v2, .int v3, .int v4, .int (0 : Int32)]) (rest := []) (st2 := [.int x56.1]) (nw := [(a_t, .inr (3, [.ref a_t_papers, .ref a_t_now, .ref a_t_trial, .ref a_t_firstSlot, .ref a_t_secondSlot, .ref a_t_acts, .ref a_t_seen, .ref a_t_text, .ref a_t_doings, .int s_t.1, .long s_t.2])), (a_t_seen, .inr (1, [.int x56.2.1.1, .int x56.2.1.2.1, .ref a_t_seen_cells, .int x56.2.1.2.2])), (a_t_seen_cells, .inl (cI, x56.2.2.1, .inl x56.2.2.2))]) ⟨hx, hb, hml, hown, hU⟩ hE (okX1_addRange a_t_seen a_t_seen_cells s_t_seen s_t_seen_cells v1 v2 v3 v4 (0 : Int32) x56 h56) lk_X3_53 hP hD hS hA [1, 2] rfl rfl rfl rfl rfl rfl hl.1 rfl (Nat.le_of_ble_eq_true rfl) ⟨Nat.le_of_ble_eq_true rfl, Nat.le_of_ble_eq_true rfl⟩ dX3_see_56 ⟨Nat.le_refl _, Nat.le_refl _⟩ rfl rfl rfl rfl (fun H locs hP hD hS => ?_)
            refine lv_pop hx hb dX3_see_59 rfl ?_
            refine lv_aload_n hx hb dX3_see_60 rfl (lv_at hl 0 rfl) ?_
            refine va_get (D := (dC, dI)) (ci := 3) (v := .ref a_t_seen) (C := RX3) (T := TX3) (N := 11) hx hb hU inlX3 hown hE.1 hP 0 rfl rfl 6 (by decide) (hU _ u_2_1) (fun _ h9 => h9) rfl dX3_see_61 ?_
            refine va_get (D := (dC, dI)) (ci := 1) (v := .int x56.2.1.2.2) (C := RX1) (T := TX1) (N := 4) hx hb hU inlX1 hown hE.1 hP 1 rfl rfl 3 (by decide) (hU _ u_10_16) (fun _ h9 => h9) rfl dX3_see_64 ?_
            cases hM
            exact rt _ _ _ _ _ hP hS dX3_see_67 rfl
          · have hM := ite_f c40 hM
            refine lv_bipush (v := (-4 : Int32)) hx hb dX3_see_43 (by decide) ?_
            cases hM
            exact rt _ _ _ _ _ hP hS dX3_see_45 rfl
        · have hM := ite_f (b2i_eq0 c26) hM
          refine lv_iconst (v := (-1 : Int32)) hx hb dX3_see_29 (by decide) ?_
          cases hM
          exact rt _ _ _ _ _ hP hS dX3_see_30 rfl
      · have hM := ite_f c16 hM
        refine lv_bipush (v := (-2 : Int32)) hx hb dX3_see_19 (by decide) ?_
        cases hM
        exact rt _ _ _ _ _ hP hS dX3_see_21 rfl
def mX3_seed (s_t : Int32 × Int64) (v1 : Int64) : Option (Int64 × (Int32 × Int64)) := some (s_t.2, (s_t.1, v1))
set_option maxHeartbeats 4000000 in
set_option maxRecDepth 100000 in
theorem okX3_seed {l : Launch} {dC : Nat → ClassId} {dI : Nat → Nat → Nat} {cI cC cZ : ClassId} (a_t a_t_papers a_t_now a_t_trial a_t_firstSlot a_t_secondSlot a_t_acts a_t_seen a_t_text a_t_doings : Nat) (s_t : Int32 × Int64) (v1 : Int64) (res : Int64 × (Int32 × Int64)) (hM : mX3_seed s_t v1 = some res) : Mu l yX3_seed cX3_seed 5 (some .long) 0 0 (dC, dI) cI cC cZ [(a_t, .inr (3, [.ref a_t_papers, .ref a_t_now, .ref a_t_trial, .ref a_t_firstSlot, .ref a_t_secondSlot, .ref a_t_acts, .ref a_t_seen, .ref a_t_text, .ref a_t_doings, .int s_t.1, .long s_t.2]))] [(a_t, .inr (3, [.ref a_t_papers, .ref a_t_now, .ref a_t_trial, .ref a_t_firstSlot, .ref a_t_secondSlot, .ref a_t_acts, .ref a_t_seen, .ref a_t_text, .ref a_t_doings, .int res.2.1, .long res.2.2]))] [.ref a_t, .long v1] (some (.long res.1)) := by
  refine Mu.ofJ (by decide) (Nat.le_of_ble_eq_true rfl) [(0, .ref a_t), (1, .long v1)] rfl ?_
  intro p e s m args below meth c ls Q A hx hb hml hown hU hE hP hD hS hA rt hl
  have hown : s.vm.findClass RX3 = some m.cls := hown
  unfold mX3_seed at hM
  refine lv_aload_n hx hb dX3_seed_0 rfl (lv_at hl 0 rfl) ?_
  refine va_get (D := (dC, dI)) (ci := 3) (v := .long s_t.2) (C := RX3) (T := TX3) (N := 11) hx hb hU inlX3 hown hE.1 hP 0 rfl rfl 10 (by decide) (hU _ u_30_10) (fun _ h9 => h9) rfl dX3_seed_1 ?_
  refine lv_lstore_n (lv' := [(3, .long s_t.2), (0, .ref a_t), (1, .long v1)]) hx hb dX3_seed_4 rfl hl (by decide) rfl (fun ls hl => ?_)
  refine lv_aload_n hx hb dX3_seed_5 rfl (lv_at hl 1 rfl) ?_
  refine lv_lload_n hx hb dX3_seed_6 rfl (lv_at hl 2 rfl) ?_
  refine va_put (D := (dC, dI)) (ci := 3) (v := .long v1) (ty := .long) (C := RX3) (T := TX3) (N := 11) hx hb hU inlX3 tyX3 tyX3_ok nmX3 hown hE.1 hP hD hS 0 rfl rfl 10 (by decide) (hU _ u_30_10) (fun _ h9 => h9) rfl (tyX3_ok 10 (by decide)) rfl rfl (Nat.le_of_ble_eq_true rfl) dX3_seed_7 (fun H locs hP hD hS => ?_)
  have hP : va_P (dC, dI) vwCl [(a_t, .inr (3, [.ref a_t_papers, .ref a_t_now, .ref a_t_trial, .ref a_t_firstSlot, .ref a_t_secondSlot, .ref a_t_acts, .ref a_t_seen, .ref a_t_text, .ref a_t_doings, .int s_t.1, .long v1]))] H := hP
  have hD : va_D A [(a_t, .inr (3, [.ref a_t_papers, .ref a_t_now, .ref a_t_trial, .ref a_t_firstSlot, .ref a_t_secondSlot, .ref a_t_acts, .ref a_t_seen, .ref a_t_text, .ref a_t_doings, .int s_t.1, .long v1]))] := hD
  refine lv_lload_n hx hb dX3_seed_10 rfl (lv_at hl 0 rfl) ?_
  cases hM
  exact rt _ _ _ _ _ hP hS dX3_seed_11 rfl
def mX3_setAside (s_t_now : Int32 × Int32 × Int32) (s_t_acts : Int32 × Int32 × Int32) (s_t_acts_cells : Ar) (v1 : Int32) : Option (Int32 × (Int32 × Int32 × Int32) × (Int32 × Int32 × Int32) × Ar) := (mX3_isOrigin v1).bind (fun x1 => (if x1 = true then bnd (s_t_now.2.1 ^^^ ((1 : Int32) <<< (v1 &&& 31))) (fun z21 => (mX3_remember s_t_acts s_t_acts_cells (7 : Int32) v1).bind (fun x28 => (mX3_bit z21 v1).bind (fun x40 => some (x40, (s_t_now.1, z21, s_t_now.2.2), x28.2.1, x28.2.2)))) else some ((-1 : Int32), s_t_now, s_t_acts, s_t_acts_cells)))
set_option maxHeartbeats 4000000 in
set_option maxRecDepth 100000 in
theorem okX3_setAside {l : Launch} {dC : Nat → ClassId} {dI : Nat → Nat → Nat} {cI cC cZ : ClassId} (a_t a_t_papers a_t_now a_t_trial a_t_firstSlot a_t_secondSlot a_t_acts a_t_seen a_t_text a_t_doings a_t_now_grants a_t_now_routes a_t_acts_cells : Nat) (s_t : Int32 × Int64) (s_t_now : Int32 × Int32 × Int32) (s_t_acts : Int32 × Int32 × Int32) (s_t_acts_cells : Ar) (v1 : Int32) (res : Int32 × (Int32 × Int32 × Int32) × (Int32 × Int32 × Int32) × Ar) (hM : mX3_setAside s_t_now s_t_acts s_t_acts_cells v1 = some res) : Mu l yX3_setAside cX3_setAside 2 (some .int) 3 84 (dC, dI) cI cC cZ [(a_t, .inr (3, [.ref a_t_papers, .ref a_t_now, .ref a_t_trial, .ref a_t_firstSlot, .ref a_t_secondSlot, .ref a_t_acts, .ref a_t_seen, .ref a_t_text, .ref a_t_doings, .int s_t.1, .long s_t.2])), (a_t_now, .inr (0, [.ref a_t_papers, .ref a_t_now_grants, .ref a_t_now_routes, .int s_t_now.1, .int s_t_now.2.1, .int s_t_now.2.2])), (a_t_acts, .inr (1, [.int s_t_acts.1, .int s_t_acts.2.1, .ref a_t_acts_cells, .int s_t_acts.2.2])), (a_t_acts_cells, .inl (cI, s_t_acts_cells.1, .inl s_t_acts_cells.2))] [(a_t, .inr (3, [.ref a_t_papers, .ref a_t_now, .ref a_t_trial, .ref a_t_firstSlot, .ref a_t_secondSlot, .ref a_t_acts, .ref a_t_seen, .ref a_t_text, .ref a_t_doings, .int s_t.1, .long s_t.2])), (a_t_now, .inr (0, [.ref a_t_papers, .ref a_t_now_grants, .ref a_t_now_routes, .int res.2.1.1, .int res.2.1.2.1, .int res.2.1.2.2])), (a_t_acts, .inr (1, [.int res.2.2.1.1, .int res.2.2.1.2.1, .ref a_t_acts_cells, .int res.2.2.1.2.2])), (a_t_acts_cells, .inl (cI, res.2.2.2.1, .inl res.2.2.2.2))] [.ref a_t, .int v1] (some (.int res.1)) := by
  refine Mu.ofI (by decide) (Nat.le_of_ble_eq_true rfl) [(0, .ref a_t), (1, .int v1)] rfl ?_
  intro p e s m args below meth c ls Q A hx hb hml hown hU hE hP hD hS hA rt hl
  have hown : s.vm.findClass RX3 = some m.cls := hown
  unfold mX3_setAside at hM
  refine lv_iload_n hx hb dX3_setAside_0 rfl (lv_at hl 1 rfl) ?_
  obtain ⟨x1, h1, hM⟩ := bind_e hM
  refine rdS (As := [.int v1]) (rest := []) (st2 := [.int (b2i x1)]) ⟨hx, hb, hml, hown, hU⟩ hE (okX3_isOrigin v1 x1 h1) lk_X3_135 (hP.sub [] rfl) rfl hl.1 rfl (Nat.le_of_ble_eq_true rfl) ⟨Nat.le_of_ble_eq_true rfl, Nat.le_of_ble_eq_true rfl⟩ dX3_setAside_1 ⟨Nat.le_refl _, Nat.le_refl _⟩ rfl ?_
  refine lv_if_ne (tgt := 9) hx hb dX3_setAside_4 (by decide) (fun c4 => ?_) (fun c4 => ?_)
  · have hM := ite_t (b2i_ne0 c4) hM
    refine lv_aload_n hx hb dX3_setAside_9 rfl (lv_at hl 0 rfl) ?_
    refine va_get (D := (dC, dI)) (ci := 3) (v := .ref a_t_now) (C := RX3) (T := TX3) (N := 11) hx hb hU inlX3 hown hE.1 hP 0 rfl rfl 1 (by decide) (hU _ u_1_20) (fun _ h9 => h9) rfl dX3_setAside_10 ?_
    refine lv_dup hx hb dX3_setAside_13 rfl ?_
    refine va_get (D := (dC, dI)) (ci := 0) (v := .int s_t_now.2.1) (C := RX0) (T := TX0) (N := 6) hx hb hU inlX0 hown hE.1 hP 1 rfl rfl 4 (by decide) (hU _ u_11_22) (fun _ h9 => h9) rfl dX3_setAside_14 ?_
    refine lv_iconst (v := (1 : Int32)) hx hb dX3_setAside_17 (by decide) ?_
    refine lv_iload_n hx hb dX3_setAside_18 rfl (lv_at hl 1 rfl) ?_
    refine lv_ishl hx hb dX3_setAside_19 ?_
    refine lv_ixor hx hb dX3_setAside_20 ?_
    obtain ⟨z21, ez21, hM⟩ := bnd_e hM
    rw [← ez21]
    refine va_put (D := (dC, dI)) (ci := 0) (v := .int z21) (ty := .int) (C := RX0) (T := TX0) (N := 6) hx hb hU inlX0 tyX0 tyX0_ok nmX0 hown hE.1 hP hD hS 1 rfl rfl 4 (by decide) (hU _ u_11_22) (fun _ h9 => h9) rfl (tyX0_ok 4 (by decide)) rfl rfl (Nat.le_of_ble_eq_true rfl) dX3_setAside_21 (fun H locs hP hD hS => ?_)
    have hP : va_P (dC, dI) vwCl [(a_t, .inr (3, [.ref a_t_papers, .ref a_t_now, .ref a_t_trial, .ref a_t_firstSlot, .ref a_t_secondSlot, .ref a_t_acts, .ref a_t_seen, .ref a_t_text, .ref a_t_doings, .int s_t.1, .long s_t.2])), (a_t_now, .inr (0, [.ref a_t_papers, .ref a_t_now_grants, .ref a_t_now_routes, .int s_t_now.1, .int z21, .int s_t_now.2.2])), (a_t_acts, .inr (1, [.int s_t_acts.1, .int s_t_acts.2.1, .ref a_t_acts_cells, .int s_t_acts.2.2])), (a_t_acts_cells, .inl (cI, s_t_acts_cells.1, .inl s_t_acts_cells.2))] H := hP
    have hD : va_D A [(a_t, .inr (3, [.ref a_t_papers, .ref a_t_now, .ref a_t_trial, .ref a_t_firstSlot, .ref a_t_secondSlot, .ref a_t_acts, .ref a_t_seen, .ref a_t_text, .ref a_t_doings, .int s_t.1, .long s_t.2])), (a_t_now, .inr (0, [.ref a_t_papers, .ref a_t_now_grants, .ref a_t_now_routes, .int s_t_now.1, .int z21, .int s_t_now.2.2])), (a_t_acts, .inr (1, [.int s_t_acts.1, .int s_t_acts.2.1, .ref a_t_acts_cells, .int s_t_acts.2.2])), (a_t_acts_cells, .inl (cI, s_t_acts_cells.1, .inl s_t_acts_cells.2))] := hD
    refine lv_aload_n hx hb dX3_setAside_24 rfl (lv_at hl 0 rfl) ?_
    refine lv_bipush (v := (7 : Int32)) hx hb dX3_setAside_25 (by decide) ?_
    refine lv_iload_n hx hb dX3_setAside_27 rfl (lv_at hl 1 rfl) ?_
    obtain ⟨x28, h28, hM⟩ := bind_e hM
    refine muV (As := [.int (7 : Int32), .int v1]) (rest := []) (st2 := [.int x28.1]) (nw := [(a_t, .inr (3, [.ref a_t_papers, .ref a_t_now, .ref a_t_trial, .ref a_t_firstSlot, .ref a_t_secondSlot, .ref a_t_acts, .ref a_t_seen, .ref a_t_text, .ref a_t_doings, .int s_t.1, .long s_t.2])), (a_t_now, .inr (0, [.ref a_t_papers, .ref a_t_now_grants, .ref a_t_now_routes, .int s_t_now.1, .int z21, .int s_t_now.2.2])), (a_t_acts, .inr (1, [.int x28.2.1.1, .int x28.2.1.2.1, .ref a_t_acts_cells, .int x28.2.1.2.2])), (a_t_acts_cells, .inl (cI, x28.2.2.1, .inl x28.2.2.2))]) ⟨hx, hb, hml, hown, hU⟩ hE (okX3_remember a_t a_t_papers a_t_now a_t_trial a_t_firstSlot a_t_secondSlot a_t_acts a_t_seen a_t_text a_t_doings a_t_acts_cells s_t s_t_acts s_t_acts_cells (7 : Int32) v1 x28 h28) lk_X3_138 hP hD hS hA [0, 2, 3] rfl rfl rfl rfl rfl rfl hl.1 rfl (Nat.le_of_ble_eq_true rfl) ⟨Nat.le_of_ble_eq_true rfl, Nat.le_of_ble_eq_true rfl⟩ dX3_setAside_28 ⟨Nat.le_refl _, Nat.le_refl _⟩ rfl rfl rfl rfl (fun H locs hP hD hS => ?_)
    refine lv_pop hx hb dX3_setAside_31 rfl ?_
    refine lv_aload_n hx hb dX3_setAside_32 rfl (lv_at hl 0 rfl) ?_
    refine va_get (D := (dC, dI)) (ci := 3) (v := .ref a_t_now) (C := RX3) (T := TX3) (N := 11) hx hb hU inlX3 hown hE.1 hP 0 rfl rfl 1 (by decide) (hU _ u_1_20) (fun _ h9 => h9) rfl dX3_setAside_33 ?_
    refine va_get (D := (dC, dI)) (ci := 0) (v := .int z21) (C := RX0) (T := TX0) (N := 6) hx hb hU inlX0 hown hE.1 hP 1 rfl rfl 4 (by decide) (hU _ u_11_22) (fun _ h9 => h9) rfl dX3_setAside_36 ?_
    refine lv_iload_n hx hb dX3_setAside_39 rfl (lv_at hl 1 rfl) ?_
    obtain ⟨x40, h40, hM⟩ := bind_e hM
    refine rdS (As := [.int z21, .int v1]) (rest := []) (st2 := [.int x40]) ⟨hx, hb, hml, hown, hU⟩ hE (okX3_bit z21 v1 x40 h40) lk_X3_121 (hP.sub [] rfl) rfl hl.1 rfl (Nat.le_of_ble_eq_true rfl) ⟨Nat.le_of_ble_eq_true rfl, Nat.le_of_ble_eq_true rfl⟩ dX3_setAside_40 ⟨Nat.le_refl _, Nat.le_refl _⟩ rfl ?_
    cases hM
    exact rt _ _ _ _ _ hP hS dX3_setAside_43 rfl
  · have hM := ite_f (b2i_eq0 c4) hM
    refine lv_iconst (v := (-1 : Int32)) hx hb dX3_setAside_7 (by decide) ?_
    cases hM
    exact rt _ _ _ _ _ hP hS dX3_setAside_8 rfl
def mX3_share_b30 (s_t_now : Int32 × Int32 × Int32) (s_t_now_grants : Int32 × Int32 × Int32) (s_t_papers : Int32 × Int32 × Int32) (s_t_papers_cells : Ar) (s_t_now_grants_cells : Ar) (s_t_now_routes : Int32 × Int32 × Int32) (s_t_now_routes_cells : Ar) (v1 : Int32) (v2 : Bool) (v3 : Int32) : Nat → Int32 → Int32 → Option (Int32)
  | 0, _, _ => none
  | n + 1, v4, v5 => (if s_t_now_routes.2.2 ≤ v5 then (mX3_fraction v4 (840 : Int32) v2).bind (fun x102 => some (x102)) else (mX0_grantsThatMakeRight s_t_now_grants s_t_now_routes s_t_now_routes_cells s_t_now_grants_cells v5 v3).bind (fun x52 => (mJ6_bitCount_0f7a4 x52).bind (fun x59 => (mX3_bit x52 v1).bind (fun x67 => (if x67 = (1 : Int32) then (if x59 ≤ 0 then mX3_share_b30 s_t_now s_t_now_grants s_t_papers s_t_papers_cells s_t_now_grants_cells s_t_now_routes s_t_now_routes_cells v1 v2 v3 n v4 (v5 + (1 : Int32)) else dv (840 : Int32) x59 (fun x86 => mX3_share_b30 s_t_now s_t_now_grants s_t_papers s_t_papers_cells s_t_now_grants_cells s_t_now_routes s_t_now_routes_cells v1 v2 v3 n (v4 + x86) (v5 + (1 : Int32)))) else mX3_share_b30 s_t_now s_t_now_grants s_t_papers s_t_papers_cells s_t_now_grants_cells s_t_now_routes s_t_now_routes_cells v1 v2 v3 n v4 (v5 + (1 : Int32)))))))
def mX3_share (s_t_now : Int32 × Int32 × Int32) (s_t_now_grants : Int32 × Int32 × Int32) (s_t_papers : Int32 × Int32 × Int32) (s_t_papers_cells : Ar) (s_t_now_grants_cells : Ar) (s_t_now_routes : Int32 × Int32 × Int32) (s_t_now_routes_cells : Ar) (v1 : Int32) (v2 : Bool) : Option (Int32) := (mX1_has s_t_now_grants v1).bind (fun x8 => (if x8 = true then (mX0_countingNow s_t_now s_t_papers s_t_papers_cells s_t_now_grants s_t_now_grants_cells).bind (fun x20 => mX3_share_b30 s_t_now s_t_now_grants s_t_papers s_t_papers_cells s_t_now_grants_cells s_t_now_routes s_t_now_routes_cells v1 v2 x20 FU (0 : Int32) (0 : Int32)) else some ((-1 : Int32))))
set_option maxHeartbeats 4000000 in
set_option maxRecDepth 100000 in
theorem okX3_share {l : Launch} {dC : Nat → ClassId} {dI : Nat → Nat → Nat} {cI cC cZ : ClassId} (a_t a_t_papers a_t_now a_t_trial a_t_firstSlot a_t_secondSlot a_t_acts a_t_seen a_t_text a_t_doings a_t_now_grants a_t_now_routes a_t_now_grants_cells a_t_papers_cells a_t_now_routes_cells : Nat) (s_t : Int32 × Int64) (s_t_now : Int32 × Int32 × Int32) (s_t_now_grants : Int32 × Int32 × Int32) (s_t_papers : Int32 × Int32 × Int32) (s_t_papers_cells : Ar) (s_t_now_grants_cells : Ar) (s_t_now_routes : Int32 × Int32 × Int32) (s_t_now_routes_cells : Ar) (v1 : Int32) (v2 : Bool) (res : Int32) (hM : mX3_share s_t_now s_t_now_grants s_t_papers s_t_papers_cells s_t_now_grants_cells s_t_now_routes s_t_now_routes_cells v1 v2 = some res) : Rd l yX3_share cX3_share 8 (some .int) 4 98 (dC, dI) cI cC cZ [(a_t, .inr (3, [.ref a_t_papers, .ref a_t_now, .ref a_t_trial, .ref a_t_firstSlot, .ref a_t_secondSlot, .ref a_t_acts, .ref a_t_seen, .ref a_t_text, .ref a_t_doings, .int s_t.1, .long s_t.2])), (a_t_now, .inr (0, [.ref a_t_papers, .ref a_t_now_grants, .ref a_t_now_routes, .int s_t_now.1, .int s_t_now.2.1, .int s_t_now.2.2])), (a_t_now_grants, .inr (1, [.int s_t_now_grants.1, .int s_t_now_grants.2.1, .ref a_t_now_grants_cells, .int s_t_now_grants.2.2])), (a_t_papers, .inr (1, [.int s_t_papers.1, .int s_t_papers.2.1, .ref a_t_papers_cells, .int s_t_papers.2.2])), (a_t_papers_cells, .inl (cI, s_t_papers_cells.1, .inl s_t_papers_cells.2)), (a_t_now_grants_cells, .inl (cI, s_t_now_grants_cells.1, .inl s_t_now_grants_cells.2)), (a_t_now_routes, .inr (1, [.int s_t_now_routes.1, .int s_t_now_routes.2.1, .ref a_t_now_routes_cells, .int s_t_now_routes.2.2])), (a_t_now_routes_cells, .inl (cI, s_t_now_routes_cells.1, .inl s_t_now_routes_cells.2))] [.ref a_t, .int v1, .int (b2i v2)] (some (.int res)) := by
  refine Rd.ofI (by decide) (Nat.le_of_ble_eq_true rfl) [(0, .ref a_t), (1, .int v1), (2, .int (b2i v2))] rfl ?_
  intro p e s m args below meth c ls Q hx hb hml hown hU hE hP rt hl
  have hown : s.vm.findClass RX3 = some m.cls := hown
  unfold mX3_share at hM
  refine lv_aload_n hx hb dX3_share_0 rfl (lv_at hl 0 rfl) ?_
  refine va_get (D := (dC, dI)) (ci := 3) (v := .ref a_t_now) (C := RX3) (T := TX3) (N := 11) hx hb hU inlX3 hown hE.1 hP 0 rfl rfl 1 (by decide) (hU _ u_1_20) (fun _ h9 => h9) rfl dX3_share_1 ?_
  refine va_get (D := (dC, dI)) (ci := 0) (v := .ref a_t_now_grants) (C := RX0) (T := TX0) (N := 6) hx hb hU inlX0 hown hE.1 hP 1 rfl rfl 1 (by decide) (hU _ u_11_18) (fun _ h9 => h9) rfl dX3_share_4 ?_
  refine lv_iload_n hx hb dX3_share_7 rfl (lv_at hl 1 rfl) ?_
  obtain ⟨x8, h8, hM⟩ := bind_e hM
  refine rdV (As := [.int v1]) (rest := []) (st2 := [.int (b2i x8)]) ⟨hx, hb, hml, hown, hU⟩ hE (okX1_has a_t_now_grants a_t_now_grants_cells s_t_now_grants v1 x8 h8) lk_X3_114 (hP.sub [2] rfl) rfl rfl rfl hl.1 rfl (Nat.le_of_ble_eq_true rfl) ⟨Nat.le_of_ble_eq_true rfl, Nat.le_of_ble_eq_true rfl⟩ dX3_share_8 ⟨Nat.le_refl _, Nat.le_refl _⟩ rfl ?_
  refine lv_if_ne (tgt := 16) hx hb dX3_share_11 (by decide) (fun c11 => ?_) (fun c11 => ?_)
  · have hM := ite_t (b2i_ne0 c11) hM
    refine lv_aload_n hx hb dX3_share_16 rfl (lv_at hl 0 rfl) ?_
    refine va_get (D := (dC, dI)) (ci := 3) (v := .ref a_t_now) (C := RX3) (T := TX3) (N := 11) hx hb hU inlX3 hown hE.1 hP 0 rfl rfl 1 (by decide) (hU _ u_1_20) (fun _ h9 => h9) rfl dX3_share_17 ?_
    obtain ⟨x20, h20, hM⟩ := bind_e hM
    refine rdV (As := []) (rest := []) (st2 := [.int x20]) ⟨hx, hb, hml, hown, hU⟩ hE (okX0_countingNow a_t_now a_t_papers a_t_now_grants a_t_now_routes a_t_papers_cells a_t_now_grants_cells s_t_now s_t_papers s_t_papers_cells s_t_now_grants s_t_now_grants_cells x20 h20) lk_X3_104 (hP.sub [1, 3, 4, 2, 5] rfl) rfl rfl rfl hl.1 rfl (Nat.le_of_ble_eq_true rfl) ⟨Nat.le_of_ble_eq_true rfl, Nat.le_of_ble_eq_true rfl⟩ dX3_share_20 ⟨Nat.le_refl _, Nat.le_refl _⟩ rfl ?_
    refine lv_istore_n (lv' := [(3, .int x20), (0, .ref a_t), (1, .int v1), (2, .int (b2i v2))]) hx hb dX3_share_23 rfl hl (by decide) rfl (fun ls hl => ?_)
    refine lv_iconst (v := (0 : Int32)) hx hb dX3_share_24 (by decide) ?_
    refine lv_istore (lv' := [(4, .int (0 : Int32)), (3, .int x20), (0, .ref a_t), (1, .int v1), (2, .int (b2i v2))]) hx hb dX3_share_25 hl (by decide) rfl (fun ls hl => ?_)
    refine lv_iconst (v := (0 : Int32)) hx hb dX3_share_27 (by decide) ?_
    refine lv_istore (lv' := [(5, .int (0 : Int32)), (4, .int (0 : Int32)), (3, .int x20), (0, .ref a_t), (1, .int v1), (2, .int (b2i v2))]) hx hb dX3_share_28 hl (by decide) rfl (fun ls hl => ?_)
    have w_30 : ∀ (n : Nat) (v4_30 : Int32) (v5_30 : Int32), mX3_share_b30 s_t_now s_t_now_grants s_t_papers s_t_papers_cells s_t_now_grants_cells s_t_now_routes s_t_now_routes_cells v1 v2 x20 n v4_30 v5_30 = some res → ∀ (ls : Array Slot), lv_has ls 8 [(0, .ref a_t), (1, .int v1), (2, .int (b2i v2)), (3, .int x20), (4, .int v4_30), (5, .int v5_30)] → W p l e (RM 4 98) s m args below meth c s.heap [] 0 0 Q (F0 m 30 ls []) := by
      intro n
      induction n with
      | zero =>
        intro v4_30 v5_30 hM
        rw [mX3_share_b30] at hM
        cases hM
      | succ n_30 ih_30 =>
        intro v4_30 v5_30 hM ls hl
        rw [mX3_share_b30] at hM
        refine lv_iload hx hb dX3_share_30 (lv_at hl 5 rfl) ?_
        refine lv_aload_n hx hb dX3_share_32 rfl (lv_at hl 0 rfl) ?_
        refine va_get (D := (dC, dI)) (ci := 3) (v := .ref a_t_now) (C := RX3) (T := TX3) (N := 11) hx hb hU inlX3 hown hE.1 hP 0 rfl rfl 1 (by decide) (hU _ u_1_20) (fun _ h9 => h9) rfl dX3_share_33 ?_
        refine va_get (D := (dC, dI)) (ci := 0) (v := .ref a_t_now_routes) (C := RX0) (T := TX0) (N := 6) hx hb hU inlX0 hown hE.1 hP 1 rfl rfl 2 (by decide) (hU _ u_11_19) (fun _ h9 => h9) rfl dX3_share_36 ?_
        refine va_get (D := (dC, dI)) (ci := 1) (v := .int s_t_now_routes.2.2) (C := RX1) (T := TX1) (N := 4) hx hb hU inlX1 hown hE.1 hP 6 rfl rfl 3 (by decide) (hU _ u_10_16) (fun _ h9 => h9) rfl dX3_share_39 ?_
        refine lv_icmp_ge (tgt := 96) hx hb dX3_share_42 (by decide) (fun c42 => ?_) (fun c42 => ?_)
        · have hM := ite_t c42 hM
          refine lv_iload hx hb dX3_share_96 (lv_at hl 4 rfl) ?_
          refine lv_sipush (v := (840 : Int32)) hx hb dX3_share_98 (by decide) ?_
          refine lv_iload_n hx hb dX3_share_101 rfl (lv_at hl 2 rfl) ?_
          obtain ⟨x102, h102, hM⟩ := bind_e hM
          refine rdS (As := [.int v4_30, .int (840 : Int32), .int (b2i v2)]) (rest := []) (st2 := [.int x102]) ⟨hx, hb, hml, hown, hU⟩ hE (okX3_fraction v4_30 (840 : Int32) v2 x102 h102) lk_X3_195 (hP.sub [] rfl) rfl hl.1 rfl (Nat.le_of_ble_eq_true rfl) ⟨Nat.le_of_ble_eq_true rfl, Nat.le_of_ble_eq_true rfl⟩ dX3_share_102 ⟨Nat.le_refl _, Nat.le_refl _⟩ rfl ?_
          cases hM
          exact rt _ _ _ dX3_share_105 rfl
        · have hM := ite_f c42 hM
          refine lv_aload_n hx hb dX3_share_45 rfl (lv_at hl 0 rfl) ?_
          refine va_get (D := (dC, dI)) (ci := 3) (v := .ref a_t_now) (C := RX3) (T := TX3) (N := 11) hx hb hU inlX3 hown hE.1 hP 0 rfl rfl 1 (by decide) (hU _ u_1_20) (fun _ h9 => h9) rfl dX3_share_46 ?_
          refine lv_iload hx hb dX3_share_49 (lv_at hl 5 rfl) ?_
          refine lv_iload_n hx hb dX3_share_51 rfl (lv_at hl 3 rfl) ?_
          obtain ⟨x52, h52, hM⟩ := bind_e hM
          refine rdV (As := [.int v5_30, .int x20]) (rest := []) (st2 := [.int x52]) ⟨hx, hb, hml, hown, hU⟩ hE (okX0_grantsThatMakeRight a_t_now a_t_papers a_t_now_grants a_t_now_routes a_t_now_grants_cells a_t_now_routes_cells s_t_now s_t_now_grants s_t_now_routes s_t_now_routes_cells s_t_now_grants_cells v5_30 x20 x52 h52) lk_X3_187 (hP.sub [1, 2, 6, 7, 5] rfl) rfl rfl rfl hl.1 rfl (Nat.le_of_ble_eq_true rfl) ⟨Nat.le_of_ble_eq_true rfl, Nat.le_of_ble_eq_true rfl⟩ dX3_share_52 ⟨Nat.le_refl _, Nat.le_refl _⟩ rfl ?_
          refine lv_istore (lv' := [(6, .int x52), (0, .ref a_t), (1, .int v1), (2, .int (b2i v2)), (3, .int x20), (4, .int v4_30), (5, .int v5_30)]) hx hb dX3_share_55 hl (by decide) rfl (fun ls hl => ?_)
          refine lv_iload hx hb dX3_share_57 (lv_at hl 0 rfl) ?_
          obtain ⟨x59, h59, hM⟩ := bind_e hM
          refine rdS (As := [.int x52]) (rest := []) (st2 := [.int x59]) ⟨hx, hb, hml, hown, hU⟩ hE (okJ6_bitCount_0f7a4 x52 x59 h59) lk_X3_190 (hP.sub [] rfl) rfl hl.1 rfl (Nat.le_of_ble_eq_true rfl) ⟨Nat.le_of_ble_eq_true rfl, Nat.le_of_ble_eq_true rfl⟩ dX3_share_59 ⟨Nat.le_refl _, Nat.le_refl _⟩ rfl ?_
          refine lv_istore (lv' := [(7, .int x59), (6, .int x52), (0, .ref a_t), (1, .int v1), (2, .int (b2i v2)), (3, .int x20), (4, .int v4_30), (5, .int v5_30)]) hx hb dX3_share_62 hl (by decide) rfl (fun ls hl => ?_)
          refine lv_iload hx hb dX3_share_64 (lv_at hl 1 rfl) ?_
          refine lv_iload_n hx hb dX3_share_66 rfl (lv_at hl 3 rfl) ?_
          obtain ⟨x67, h67, hM⟩ := bind_e hM
          refine rdS (As := [.int x52, .int v1]) (rest := []) (st2 := [.int x67]) ⟨hx, hb, hml, hown, hU⟩ hE (okX3_bit x52 v1 x67 h67) lk_X3_121 (hP.sub [] rfl) rfl hl.1 rfl (Nat.le_of_ble_eq_true rfl) ⟨Nat.le_of_ble_eq_true rfl, Nat.le_of_ble_eq_true rfl⟩ dX3_share_67 ⟨Nat.le_refl _, Nat.le_refl _⟩ rfl ?_
          refine lv_iconst (v := (1 : Int32)) hx hb dX3_share_70 (by decide) ?_
          refine lv_icmp_ne (tgt := 90) hx hb dX3_share_71 (by decide) (fun c71 => ?_) (fun c71 => ?_)
          · have hM := ite_f c71 hM
            refine lv_iinc (v := (v5_30 + (1 : Int32))) (lv' := [(5, .int (v5_30 + (1 : Int32))), (7, .int x59), (6, .int x52), (0, .ref a_t), (1, .int v1), (2, .int (b2i v2)), (3, .int x20), (4, .int v4_30)]) hx hb dX3_share_90 hl (k := 7) rfl rfl (by decide) rfl (fun ls hl => ?_)
            refine lv_goto (tgt := 30) hx hb dX3_share_93 (by decide) ?_
            exact ih_30 v4_30 (v5_30 + (1 : Int32)) hM ls (lv_sub hl [3, 4, 5, 6, 7, 0] rfl)
          · have hM := ite_t c71 hM
            refine lv_iload hx hb dX3_share_74 (lv_at hl 0 rfl) ?_
            refine lv_if_le (tgt := 90) hx hb dX3_share_76 (by decide) (fun c76 => ?_) (fun c76 => ?_)
            · have hM := ite_t c76 hM
              refine lv_iinc (v := (v5_30 + (1 : Int32))) (lv' := [(5, .int (v5_30 + (1 : Int32))), (7, .int x59), (6, .int x52), (0, .ref a_t), (1, .int v1), (2, .int (b2i v2)), (3, .int x20), (4, .int v4_30)]) hx hb dX3_share_90 hl (k := 7) rfl rfl (by decide) rfl (fun ls hl => ?_)
              refine lv_goto (tgt := 30) hx hb dX3_share_93 (by decide) ?_
              exact ih_30 v4_30 (v5_30 + (1 : Int32)) hM ls (lv_sub hl [3, 4, 5, 6, 7, 0] rfl)
            · have hM := ite_f c76 hM
              refine lv_iload hx hb dX3_share_79 (lv_at hl 6 rfl) ?_
              refine lv_sipush (v := (840 : Int32)) hx hb dX3_share_81 (by decide) ?_
              refine lv_iload hx hb dX3_share_84 (lv_at hl 0 rfl) ?_
              obtain ⟨g86, hM⟩ := dv_e hM
              refine lv_idiv hx hb dX3_share_86 g86 ?_
              refine lv_iadd hx hb dX3_share_87 ?_
              refine lv_istore (lv' := [(4, .int (v4_30 + ((840 : Int32) / x59))), (7, .int x59), (6, .int x52), (0, .ref a_t), (1, .int v1), (2, .int (b2i v2)), (3, .int x20), (5, .int v5_30)]) hx hb dX3_share_88 hl (by decide) rfl (fun ls hl => ?_)
              refine lv_iinc (v := (v5_30 + (1 : Int32))) (lv' := [(5, .int (v5_30 + (1 : Int32))), (4, .int (v4_30 + ((840 : Int32) / x59))), (7, .int x59), (6, .int x52), (0, .ref a_t), (1, .int v1), (2, .int (b2i v2)), (3, .int x20)]) hx hb dX3_share_90 hl (k := 7) rfl rfl (by decide) rfl (fun ls hl => ?_)
              refine lv_goto (tgt := 30) hx hb dX3_share_93 (by decide) ?_
              exact ih_30 (v4_30 + ((840 : Int32) / x59)) (v5_30 + (1 : Int32)) hM ls (lv_sub hl [4, 5, 6, 7, 1, 0] rfl)
    exact w_30 FU (0 : Int32) (0 : Int32) hM ls (lv_sub hl [3, 4, 5, 2, 1, 0] rfl)
  · have hM := ite_f (b2i_eq0 c11) hM
    refine lv_iconst (v := (-1 : Int32)) hx hb dX3_share_14 (by decide) ?_
    cases hM
    exact rt _ _ _ dX3_share_15 rfl
def mX3_state (s_t_now : Int32 × Int32 × Int32) (s_t_papers : Int32 × Int32 × Int32) (s_t_papers_cells : Ar) (s_t_now_grants : Int32 × Int32 × Int32) (s_t_now_grants_cells : Ar) (v1 : Int32) (v2 : Int32) (v3 : Int32) : Option (Int32) := (mX3_isRange v1 v2).bind (fun x2 => (if x2 = true then (mX3_isOrigin v3).bind (fun x12 => (if x12 = true then (mX3_coverOf v1 v2).bind (fun x26 => (mX0_countingNow s_t_now s_t_papers s_t_papers_cells s_t_now_grants s_t_now_grants_cells).bind (fun x35 => (mX0_stateOf s_t_now_grants s_t_now_grants_cells x26 v2 v3 x35).bind (fun x38 => some (x38)))) else some ((-1 : Int32)))) else some ((-2 : Int32))))
set_option maxHeartbeats 4000000 in
set_option maxRecDepth 100000 in
theorem okX3_state {l : Launch} {dC : Nat → ClassId} {dI : Nat → Nat → Nat} {cI cC cZ : ClassId} (a_t a_t_papers a_t_now a_t_trial a_t_firstSlot a_t_secondSlot a_t_acts a_t_seen a_t_text a_t_doings a_t_now_grants a_t_now_routes a_t_papers_cells a_t_now_grants_cells : Nat) (s_t : Int32 × Int64) (s_t_now : Int32 × Int32 × Int32) (s_t_papers : Int32 × Int32 × Int32) (s_t_papers_cells : Ar) (s_t_now_grants : Int32 × Int32 × Int32) (s_t_now_grants_cells : Ar) (v1 : Int32) (v2 : Int32) (v3 : Int32) (res : Int32) (hM : mX3_state s_t_now s_t_papers s_t_papers_cells s_t_now_grants s_t_now_grants_cells v1 v2 v3 = some res) : Rd l yX3_state cX3_state 4 (some .int) 3 66 (dC, dI) cI cC cZ [(a_t, .inr (3, [.ref a_t_papers, .ref a_t_now, .ref a_t_trial, .ref a_t_firstSlot, .ref a_t_secondSlot, .ref a_t_acts, .ref a_t_seen, .ref a_t_text, .ref a_t_doings, .int s_t.1, .long s_t.2])), (a_t_now, .inr (0, [.ref a_t_papers, .ref a_t_now_grants, .ref a_t_now_routes, .int s_t_now.1, .int s_t_now.2.1, .int s_t_now.2.2])), (a_t_papers, .inr (1, [.int s_t_papers.1, .int s_t_papers.2.1, .ref a_t_papers_cells, .int s_t_papers.2.2])), (a_t_papers_cells, .inl (cI, s_t_papers_cells.1, .inl s_t_papers_cells.2)), (a_t_now_grants, .inr (1, [.int s_t_now_grants.1, .int s_t_now_grants.2.1, .ref a_t_now_grants_cells, .int s_t_now_grants.2.2])), (a_t_now_grants_cells, .inl (cI, s_t_now_grants_cells.1, .inl s_t_now_grants_cells.2))] [.ref a_t, .int v1, .int v2, .int v3] (some (.int res)) := by
  refine Rd.ofI (by decide) (Nat.le_of_ble_eq_true rfl) [(0, .ref a_t), (1, .int v1), (2, .int v2), (3, .int v3)] rfl ?_
  intro p e s m args below meth c ls Q hx hb hml hown hU hE hP rt hl
  have hown : s.vm.findClass RX3 = some m.cls := hown
  unfold mX3_state at hM
  refine lv_iload_n hx hb dX3_state_0 rfl (lv_at hl 1 rfl) ?_
  refine lv_iload_n hx hb dX3_state_1 rfl (lv_at hl 2 rfl) ?_
  obtain ⟨x2, h2, hM⟩ := bind_e hM
  refine rdS (As := [.int v1, .int v2]) (rest := []) (st2 := [.int (b2i x2)]) ⟨hx, hb, hml, hown, hU⟩ hE (okX3_isRange v1 v2 x2 h2) lk_X3_131 (hP.sub [] rfl) rfl hl.1 rfl (Nat.le_of_ble_eq_true rfl) ⟨Nat.le_of_ble_eq_true rfl, Nat.le_of_ble_eq_true rfl⟩ dX3_state_2 ⟨Nat.le_refl _, Nat.le_refl _⟩ rfl ?_
  refine lv_if_ne (tgt := 11) hx hb dX3_state_5 (by decide) (fun c5 => ?_) (fun c5 => ?_)
  · have hM := ite_t (b2i_ne0 c5) hM
    refine lv_iload_n hx hb dX3_state_11 rfl (lv_at hl 3 rfl) ?_
    obtain ⟨x12, h12, hM⟩ := bind_e hM
    refine rdS (As := [.int v3]) (rest := []) (st2 := [.int (b2i x12)]) ⟨hx, hb, hml, hown, hU⟩ hE (okX3_isOrigin v3 x12 h12) lk_X3_135 (hP.sub [] rfl) rfl hl.1 rfl (Nat.le_of_ble_eq_true rfl) ⟨Nat.le_of_ble_eq_true rfl, Nat.le_of_ble_eq_true rfl⟩ dX3_state_12 ⟨Nat.le_refl _, Nat.le_refl _⟩ rfl ?_
    refine lv_if_ne (tgt := 20) hx hb dX3_state_15 (by decide) (fun c15 => ?_) (fun c15 => ?_)
    · have hM := ite_t (b2i_ne0 c15) hM
      refine lv_aload_n hx hb dX3_state_20 rfl (lv_at hl 0 rfl) ?_
      refine va_get (D := (dC, dI)) (ci := 3) (v := .ref a_t_now) (C := RX3) (T := TX3) (N := 11) hx hb hU inlX3 hown hE.1 hP 0 rfl rfl 1 (by decide) (hU _ u_1_20) (fun _ h9 => h9) rfl dX3_state_21 ?_
      refine lv_iload_n hx hb dX3_state_24 rfl (lv_at hl 1 rfl) ?_
      refine lv_iload_n hx hb dX3_state_25 rfl (lv_at hl 2 rfl) ?_
      obtain ⟨x26, h26, hM⟩ := bind_e hM
      refine rdS (As := [.int v1, .int v2]) (rest := [.ref a_t_now]) (st2 := [.int x26, .ref a_t_now]) ⟨hx, hb, hml, hown, hU⟩ hE (okX3_coverOf v1 v2 x26 h26) lk_X3_151 (hP.sub [] rfl) rfl hl.1 rfl (Nat.le_of_ble_eq_true rfl) ⟨Nat.le_of_ble_eq_true rfl, Nat.le_of_ble_eq_true rfl⟩ dX3_state_26 ⟨Nat.le_refl _, Nat.le_refl _⟩ rfl ?_
      refine lv_iload_n hx hb dX3_state_29 rfl (lv_at hl 2 rfl) ?_
      refine lv_iload_n hx hb dX3_state_30 rfl (lv_at hl 3 rfl) ?_
      refine lv_aload_n hx hb dX3_state_31 rfl (lv_at hl 0 rfl) ?_
      refine va_get (D := (dC, dI)) (ci := 3) (v := .ref a_t_now) (C := RX3) (T := TX3) (N := 11) hx hb hU inlX3 hown hE.1 hP 0 rfl rfl 1 (by decide) (hU _ u_1_20) (fun _ h9 => h9) rfl dX3_state_32 ?_
      obtain ⟨x35, h35, hM⟩ := bind_e hM
      refine rdV (As := []) (rest := [.int v3, .int v2, .int x26, .ref a_t_now]) (st2 := [.int x35, .int v3, .int v2, .int x26, .ref a_t_now]) ⟨hx, hb, hml, hown, hU⟩ hE (okX0_countingNow a_t_now a_t_papers a_t_now_grants a_t_now_routes a_t_papers_cells a_t_now_grants_cells s_t_now s_t_papers s_t_papers_cells s_t_now_grants s_t_now_grants_cells x35 h35) lk_X3_104 (hP.sub [1, 2, 3, 4, 5] rfl) rfl rfl rfl hl.1 rfl (Nat.le_of_ble_eq_true rfl) ⟨Nat.le_of_ble_eq_true rfl, Nat.le_of_ble_eq_true rfl⟩ dX3_state_35 ⟨Nat.le_refl _, Nat.le_refl _⟩ rfl ?_
      obtain ⟨x38, h38, hM⟩ := bind_e hM
      refine rdV (As := [.int x26, .int v2, .int v3, .int x35]) (rest := []) (st2 := [.int x38]) ⟨hx, hb, hml, hown, hU⟩ hE (okX0_stateOf a_t_now a_t_papers a_t_now_grants a_t_now_routes a_t_now_grants_cells s_t_now s_t_now_grants s_t_now_grants_cells x26 v2 v3 x35 x38 h38) lk_X3_124 (hP.sub [1, 4, 5] rfl) rfl rfl rfl hl.1 rfl (Nat.le_of_ble_eq_true rfl) ⟨Nat.le_of_ble_eq_true rfl, Nat.le_of_ble_eq_true rfl⟩ dX3_state_38 ⟨Nat.le_refl _, Nat.le_refl _⟩ rfl ?_
      cases hM
      exact rt _ _ _ dX3_state_41 rfl
    · have hM := ite_f (b2i_eq0 c15) hM
      refine lv_iconst (v := (-1 : Int32)) hx hb dX3_state_18 (by decide) ?_
      cases hM
      exact rt _ _ _ dX3_state_19 rfl
  · have hM := ite_f (b2i_eq0 c5) hM
    refine lv_bipush (v := (-2 : Int32)) hx hb dX3_state_8 (by decide) ?_
    cases hM
    exact rt _ _ _ dX3_state_10 rfl
