noncomputable def mX0_canBe_b28 (s_t : Int32 × Int32 × Int32) (s_t_papers : Int32 × Int32 × Int32) (s_t_routes : Int32 × Int32 × Int32) (s_t_papers_cells : Ar) (s_t_grants : Int32 × Int32 × Int32) (s_t_grants_cells : Ar) (s_t_routes_cells : Ar) (v1 : Int32) (v2 : Int32) (v3 : Int32) (t0 : Bool) : Option (Bool × (Int32 × Int32 × Int32) × (Int32 × Int32 × Int32) × Ar) := (if (v1 / (1000 : Int32)) = (1 : Int32) then (if t0 = true then (if v3 = 0 then (mX0_canRevoke s_t s_t_papers v2).bind (fun x91 => (if x91.1 = true then some (true, x91.2, s_t_routes, s_t_routes_cells) else some (false, x91.2, s_t_routes, s_t_routes_cells))) else some (false, s_t, s_t_routes, s_t_routes_cells)) else some (false, s_t, s_t_routes, s_t_routes_cells)) else (if (v1 / (1000 : Int32)) = (2 : Int32) then (if t0 = true then (if v3 = 0 then (if v2 = 0 then (mX0_canPassNight s_t).bind (fun x117 => (if x117.1 = true then some (true, x117.2, s_t_routes, s_t_routes_cells) else some (false, x117.2, s_t_routes, s_t_routes_cells))) else some (false, s_t, s_t_routes, s_t_routes_cells)) else some (false, s_t, s_t_routes, s_t_routes_cells)) else some (false, s_t, s_t_routes, s_t_routes_cells)) else (if (v1 / (1000 : Int32)) = (3 : Int32) then (if t0 = true then (if v3 = 0 then (mX0_canSetAside s_t v2).bind (fun x140 => (if x140.1 = true then some (true, x140.2, s_t_routes, s_t_routes_cells) else some (false, x140.2, s_t_routes, s_t_routes_cells))) else some (false, s_t, s_t_routes, s_t_routes_cells)) else some (false, s_t, s_t_routes, s_t_routes_cells)) else (if (v1 / (1000 : Int32)) = (4 : Int32) then (if t0 = true then (mX1_has s_t_routes v2).bind (fun x162 => (if x162 = true then (mX0_countingNow s_t s_t_papers s_t_papers_cells s_t_grants s_t_grants_cells).bind (fun x171 => (mX0_routesThatAre s_t_routes s_t_routes_cells s_t_grants s_t_grants_cells v3 x171).bind (fun x174 => (mX3_bit x174 v2).bind (fun x178 => (if x178 = (1 : Int32) then some (true, s_t, s_t_routes, s_t_routes_cells) else some (false, s_t, s_t_routes, s_t_routes_cells))))) else some (false, s_t, s_t_routes, s_t_routes_cells))) else some (false, s_t, s_t_routes, s_t_routes_cells)) else (if (v1 / (1000 : Int32)) = (5 : Int32) then (mX3_isLaw v2).bind (fun x192 => (if x192 = true then (mX3_isPlace (v1 - v1 / (100 : Int32) * (100 : Int32))).bind (fun x202 => (if x202 = true then (mX0_routeTo s_t s_t_papers s_t_papers_cells s_t_grants s_t_grants_cells s_t_routes s_t_routes_cells (v1 - v1 / (100 : Int32) * (100 : Int32)) v2).bind (fun x214 => (if x214 = (-9 : Int32) then some (true, s_t, s_t_routes, s_t_routes_cells) else some (false, s_t, s_t_routes, s_t_routes_cells))) else some (false, s_t, s_t_routes, s_t_routes_cells))) else some (false, s_t, s_t_routes, s_t_routes_cells))) else (if (v1 / (1000 : Int32)) = (6 : Int32) then (if t0 = true then (mX1_has s_t_papers v2).bind (fun x238 => (if x238 = true then (mX0_standing s_t s_t_papers s_t_papers_cells s_t.1).bind (fun x249 => (mX3_bit x249 v2).bind (fun x253 => (if x253 = v3 then some (true, s_t, s_t_routes, s_t_routes_cells) else some (false, s_t, s_t_routes, s_t_routes_cells)))) else some (false, s_t, s_t_routes, s_t_routes_cells))) else some (false, s_t, s_t_routes, s_t_routes_cells)) else (if (v1 / (1000 : Int32)) = (7 : Int32) then (if t0 = true then (mX1_has s_t_grants v2).bind (fun x276 => (if x276 = true then (mX0_countingNow s_t s_t_papers s_t_papers_cells s_t_grants s_t_grants_cells).bind (fun x283 => (mX3_bit x283 v2).bind (fun x287 => (if x287 = v3 then some (true, s_t, s_t_routes, s_t_routes_cells) else some (false, s_t, s_t_routes, s_t_routes_cells)))) else some (false, s_t, s_t_routes, s_t_routes_cells))) else some (false, s_t, s_t_routes, s_t_routes_cells)) else (if (v1 / (1000 : Int32)) = (8 : Int32) then (if t0 = true then (if v3 = 0 then (mX0_canWithdraw s_t_routes s_t_routes_cells v2).bind (fun x311 => (if x311.1 = true then some (true, s_t, x311.2.1, x311.2.2) else some (false, s_t, x311.2.1, x311.2.2))) else some (false, s_t, s_t_routes, s_t_routes_cells)) else some (false, s_t, s_t_routes, s_t_routes_cells)) else some (false, s_t, s_t_routes, s_t_routes_cells)))))))))
noncomputable def mX0_canBe (s_t : Int32 × Int32 × Int32) (s_t_papers : Int32 × Int32 × Int32) (s_t_routes : Int32 × Int32 × Int32) (s_t_papers_cells : Ar) (s_t_grants : Int32 × Int32 × Int32) (s_t_grants_cells : Ar) (s_t_routes_cells : Ar) (v1 : Int32) : Option (Bool × (Int32 × Int32 × Int32) × (Int32 × Int32 × Int32) × Ar) := bnd ((v1 / (100 : Int32)) - (v1 / (100 : Int32)) / (10 : Int32) * (10 : Int32)) (fun z7 => (if ((v1 / (10 : Int32)) - (v1 / (10 : Int32)) / (10 : Int32) * (10 : Int32)) = 0 then mX0_canBe_b28 s_t s_t_papers s_t_routes s_t_papers_cells s_t_grants s_t_grants_cells s_t_routes_cells v1 z7 (v1 - v1 / (10 : Int32) * (10 : Int32)) true else mX0_canBe_b28 s_t s_t_papers s_t_routes s_t_papers_cells s_t_grants s_t_grants_cells s_t_routes_cells v1 z7 (v1 - v1 / (10 : Int32) * (10 : Int32)) false))
set_option maxHeartbeats 4000000 in
set_option maxRecDepth 100000 in
theorem okX0_canBe {l : Launch} {dC : Nat → ClassId} {dI : Nat → Nat → Nat} {cI cC cZ : ClassId} (a_t a_t_papers a_t_grants a_t_routes a_t_papers_cells a_t_routes_cells a_t_grants_cells : Nat) (s_t : Int32 × Int32 × Int32) (s_t_papers : Int32 × Int32 × Int32) (s_t_routes : Int32 × Int32 × Int32) (s_t_papers_cells : Ar) (s_t_grants : Int32 × Int32 × Int32) (s_t_grants_cells : Ar) (s_t_routes_cells : Ar) (v1 : Int32) (res : Bool × (Int32 × Int32 × Int32) × (Int32 × Int32 × Int32) × Ar) (hM : mX0_canBe s_t s_t_papers s_t_routes s_t_papers_cells s_t_grants s_t_grants_cells s_t_routes_cells v1 = some res) : Mu l yX0_canBe cX0_canBe 5 (some .boolean) 5 123 (dC, dI) cI cC cZ [(a_t, .inr (0, [.ref a_t_papers, .ref a_t_grants, .ref a_t_routes, .int s_t.1, .int s_t.2.1, .int s_t.2.2])), (a_t_papers, .inr (1, [.int s_t_papers.1, .int s_t_papers.2.1, .ref a_t_papers_cells, .int s_t_papers.2.2])), (a_t_routes, .inr (1, [.int s_t_routes.1, .int s_t_routes.2.1, .ref a_t_routes_cells, .int s_t_routes.2.2])), (a_t_papers_cells, .inl (cI, s_t_papers_cells.1, .inl s_t_papers_cells.2)), (a_t_grants, .inr (1, [.int s_t_grants.1, .int s_t_grants.2.1, .ref a_t_grants_cells, .int s_t_grants.2.2])), (a_t_grants_cells, .inl (cI, s_t_grants_cells.1, .inl s_t_grants_cells.2)), (a_t_routes_cells, .inl (cI, s_t_routes_cells.1, .inl s_t_routes_cells.2))] [(a_t, .inr (0, [.ref a_t_papers, .ref a_t_grants, .ref a_t_routes, .int res.2.1.1, .int res.2.1.2.1, .int res.2.1.2.2])), (a_t_papers, .inr (1, [.int s_t_papers.1, .int s_t_papers.2.1, .ref a_t_papers_cells, .int s_t_papers.2.2])), (a_t_routes, .inr (1, [.int res.2.2.1.1, .int res.2.2.1.2.1, .ref a_t_routes_cells, .int res.2.2.1.2.2])), (a_t_papers_cells, .inl (cI, s_t_papers_cells.1, .inl s_t_papers_cells.2)), (a_t_grants, .inr (1, [.int s_t_grants.1, .int s_t_grants.2.1, .ref a_t_grants_cells, .int s_t_grants.2.2])), (a_t_grants_cells, .inl (cI, s_t_grants_cells.1, .inl s_t_grants_cells.2)), (a_t_routes_cells, .inl (cI, res.2.2.2.1, .inl res.2.2.2.2))] [.ref a_t, .int v1] (some (.int (b2i res.1))) := by
  refine Mu.ofZ (by decide) (Nat.le_of_ble_eq_true rfl) [(0, .ref a_t), (1, .int v1)] rfl ?_
  intro p e s m args below meth c ls Q A hx hb hml hown hU hE hP hD hS hA rt hl
  have hown : s.vm.findClass RX0 = some m.cls := hown
  unfold mX0_canBe at hM
  refine lv_iload_n hx hb dX0_canBe_0 rfl (lv_at hl 1 rfl) ?_
  refine lv_bipush (v := (100 : Int32)) hx hb dX0_canBe_1 (by decide) ?_
  refine lv_idiv hx hb dX0_canBe_3 (by decide) ?_
  refine lv_bipush (v := (10 : Int32)) hx hb dX0_canBe_4 (by decide) ?_
  refine lv_irem hx hb dX0_canBe_6 (by decide) ?_
  obtain ⟨z7, ez7, hM⟩ := bnd_e hM
  rw [← ez7]
  refine lv_istore_n (lv' := [(2, .int z7), (0, .ref a_t), (1, .int v1)]) hx hb dX0_canBe_7 rfl hl (by decide) rfl (fun ls hl => ?_)
  refine lv_iload_n hx hb dX0_canBe_8 rfl (lv_at hl 2 rfl) ?_
  refine lv_bipush (v := (10 : Int32)) hx hb dX0_canBe_9 (by decide) ?_
  refine lv_irem hx hb dX0_canBe_11 (by decide) ?_
  refine lv_istore_n (lv' := [(3, .int (v1 - v1 / (10 : Int32) * (10 : Int32))), (2, .int z7), (0, .ref a_t), (1, .int v1)]) hx hb dX0_canBe_12 rfl hl (by decide) rfl (fun ls hl => ?_)
  refine lv_iload_n hx hb dX0_canBe_13 rfl (lv_at hl 3 rfl) ?_
  refine lv_bipush (v := (10 : Int32)) hx hb dX0_canBe_14 (by decide) ?_
  refine lv_idiv hx hb dX0_canBe_16 (by decide) ?_
  refine lv_bipush (v := (10 : Int32)) hx hb dX0_canBe_17 (by decide) ?_
  refine lv_irem hx hb dX0_canBe_19 (by decide) ?_
  have w_28 : ∀ (t0_28 : Bool), mX0_canBe_b28 s_t s_t_papers s_t_routes s_t_papers_cells s_t_grants s_t_grants_cells s_t_routes_cells v1 z7 (v1 - v1 / (10 : Int32) * (10 : Int32)) t0_28 = some res → ∀ (ls : Array Slot) (H : Heap) (locs : List Loc), va_P (dC, dI) vwCl [(a_t, .inr (0, [.ref a_t_papers, .ref a_t_grants, .ref a_t_routes, .int s_t.1, .int s_t.2.1, .int s_t.2.2])), (a_t_papers, .inr (1, [.int s_t_papers.1, .int s_t_papers.2.1, .ref a_t_papers_cells, .int s_t_papers.2.2])), (a_t_routes, .inr (1, [.int s_t_routes.1, .int s_t_routes.2.1, .ref a_t_routes_cells, .int s_t_routes.2.2])), (a_t_papers_cells, .inl (cI, s_t_papers_cells.1, .inl s_t_papers_cells.2)), (a_t_grants, .inr (1, [.int s_t_grants.1, .int s_t_grants.2.1, .ref a_t_grants_cells, .int s_t_grants.2.2])), (a_t_grants_cells, .inl (cI, s_t_grants_cells.1, .inl s_t_grants_cells.2)), (a_t_routes_cells, .inl (cI, s_t_routes_cells.1, .inl s_t_routes_cells.2))] H → va_D A [(a_t, .inr (0, [.ref a_t_papers, .ref a_t_grants, .ref a_t_routes, .int s_t.1, .int s_t.2.1, .int s_t.2.2])), (a_t_papers, .inr (1, [.int s_t_papers.1, .int s_t_papers.2.1, .ref a_t_papers_cells, .int s_t_papers.2.2])), (a_t_routes, .inr (1, [.int s_t_routes.1, .int s_t_routes.2.1, .ref a_t_routes_cells, .int s_t_routes.2.2])), (a_t_papers_cells, .inl (cI, s_t_papers_cells.1, .inl s_t_papers_cells.2)), (a_t_grants, .inr (1, [.int s_t_grants.1, .int s_t_grants.2.1, .ref a_t_grants_cells, .int s_t_grants.2.2])), (a_t_grants_cells, .inl (cI, s_t_grants_cells.1, .inl s_t_grants_cells.2)), (a_t_routes_cells, .inl (cI, s_t_routes_cells.1, .inl s_t_routes_cells.2))] → va_S A s.heap H locs → lv_has ls 5 [(0, .ref a_t), (1, .int v1), (2, .int z7), (3, .int (v1 - v1 / (10 : Int32) * (10 : Int32)))] → W p l e (RM 5 123) s m args below meth c H locs 0 0 Q (F0 m 28 ls [.int (b2i t0_28)]) := by
    intro t0_28 hM ls H locs hP hD hS hl
    unfold mX0_canBe_b28 at hM
    refine lv_istore (lv' := [(4, .int (b2i t0_28)), (0, .ref a_t), (1, .int v1), (2, .int z7), (3, .int (v1 - v1 / (10 : Int32) * (10 : Int32)))]) hx hb dX0_canBe_28 hl (by decide) rfl (fun ls hl => ?_)
    refine lv_iload_n hx hb dX0_canBe_30 rfl (lv_at hl 2 rfl) ?_
    refine lv_sipush (v := (1000 : Int32)) hx hb dX0_canBe_31 (by decide) ?_
    refine lv_idiv hx hb dX0_canBe_34 (by decide) ?_
    by_cases c35_0 : (v1 / (1000 : Int32)) = (1 : Int32)
    · have hM := ite_t c35_0 hM
      refine lv_tableIn (off := 45) (tgt := 80) hx hb dX0_canBe_35 (by rw [c35_0]; decide) (by rw [c35_0]; decide) (by rw [c35_0]; rfl) (by decide) ?_
      refine lv_iload hx hb dX0_canBe_80 (lv_at hl 0 rfl) ?_
      refine lv_if_eq (tgt := 101) hx hb dX0_canBe_82 (by decide) (fun c82 => ?_) (fun c82 => ?_)
      · have hM := ite_f (b2i_eq0 c82) hM
        refine lv_iconst (v := (0 : Int32)) hx hb dX0_canBe_101 (by decide) ?_
        cases hM
        exact rt false _ _ _ _ hP hS dX0_canBe_102 rfl
      · have hM := ite_t (b2i_ne0 c82) hM
        refine lv_iload_n hx hb dX0_canBe_85 rfl (lv_at hl 4 rfl) ?_
        refine lv_if_ne (tgt := 101) hx hb dX0_canBe_86 (by decide) (fun c86 => ?_) (fun c86 => ?_)
        · have hM := ite_f c86 hM
          refine lv_iconst (v := (0 : Int32)) hx hb dX0_canBe_101 (by decide) ?_
          cases hM
          exact rt false _ _ _ _ hP hS dX0_canBe_102 rfl
        · have hM := ite_t c86 hM
          refine lv_aload_n hx hb dX0_canBe_89 rfl (lv_at hl 1 rfl) ?_
          refine lv_iload_n hx hb dX0_canBe_90 rfl (lv_at hl 3 rfl) ?_
          obtain ⟨x91, h91, hM⟩ := bind_e hM
          refine muV (As := [.int z7]) (rest := []) (st2 := [.int (b2i x91.1)]) (nw := [(a_t, .inr (0, [.ref a_t_papers, .ref a_t_grants, .ref a_t_routes, .int x91.2.1, .int x91.2.2.1, .int x91.2.2.2])), (a_t_papers, .inr (1, [.int s_t_papers.1, .int s_t_papers.2.1, .ref a_t_papers_cells, .int s_t_papers.2.2])), (a_t_routes, .inr (1, [.int s_t_routes.1, .int s_t_routes.2.1, .ref a_t_routes_cells, .int s_t_routes.2.2])), (a_t_papers_cells, .inl (cI, s_t_papers_cells.1, .inl s_t_papers_cells.2)), (a_t_grants, .inr (1, [.int s_t_grants.1, .int s_t_grants.2.1, .ref a_t_grants_cells, .int s_t_grants.2.2])), (a_t_grants_cells, .inl (cI, s_t_grants_cells.1, .inl s_t_grants_cells.2)), (a_t_routes_cells, .inl (cI, s_t_routes_cells.1, .inl s_t_routes_cells.2))]) ⟨hx, hb, hml, hown, hU⟩ hE (okX0_canRevoke a_t a_t_papers a_t_grants a_t_routes a_t_papers_cells s_t s_t_papers z7 x91 h91) lk_X0_83 hP hD hS hA [0, 1] rfl rfl rfl rfl rfl rfl hl.1 rfl (Nat.le_of_ble_eq_true rfl) ⟨Nat.le_of_ble_eq_true rfl, Nat.le_of_ble_eq_true rfl⟩ dX0_canBe_91 ⟨Nat.le_refl _, Nat.le_refl _⟩ rfl rfl rfl rfl (fun H locs hP hD hS => ?_)
          refine lv_if_eq (tgt := 101) hx hb dX0_canBe_94 (by decide) (fun c94 => ?_) (fun c94 => ?_)
          · have hM := ite_f (b2i_eq0 c94) hM
            refine lv_iconst (v := (0 : Int32)) hx hb dX0_canBe_101 (by decide) ?_
            cases hM
            exact rt false _ _ _ _ hP hS dX0_canBe_102 rfl
          · have hM := ite_t (b2i_ne0 c94) hM
            refine lv_iconst (v := (1 : Int32)) hx hb dX0_canBe_97 (by decide) ?_
            refine lv_goto (tgt := 102) hx hb dX0_canBe_98 (by decide) ?_
            cases hM
            exact rt true _ _ _ _ hP hS dX0_canBe_102 rfl
    have hM := ite_f c35_0 hM
    by_cases c35_1 : (v1 / (1000 : Int32)) = (2 : Int32)
    · have hM := ite_t c35_1 hM
      refine lv_tableIn (off := 68) (tgt := 103) hx hb dX0_canBe_35 (by rw [c35_1]; decide) (by rw [c35_1]; decide) (by rw [c35_1]; rfl) (by decide) ?_
      refine lv_iload hx hb dX0_canBe_103 (lv_at hl 0 rfl) ?_
      refine lv_if_eq (tgt := 127) hx hb dX0_canBe_105 (by decide) (fun c105 => ?_) (fun c105 => ?_)
      · have hM := ite_f (b2i_eq0 c105) hM
        refine lv_iconst (v := (0 : Int32)) hx hb dX0_canBe_127 (by decide) ?_
        cases hM
        exact rt false _ _ _ _ hP hS dX0_canBe_128 rfl
      · have hM := ite_t (b2i_ne0 c105) hM
        refine lv_iload_n hx hb dX0_canBe_108 rfl (lv_at hl 4 rfl) ?_
        refine lv_if_ne (tgt := 127) hx hb dX0_canBe_109 (by decide) (fun c109 => ?_) (fun c109 => ?_)
        · have hM := ite_f c109 hM
          refine lv_iconst (v := (0 : Int32)) hx hb dX0_canBe_127 (by decide) ?_
          cases hM
          exact rt false _ _ _ _ hP hS dX0_canBe_128 rfl
        · have hM := ite_t c109 hM
          refine lv_iload_n hx hb dX0_canBe_112 rfl (lv_at hl 3 rfl) ?_
          refine lv_if_ne (tgt := 127) hx hb dX0_canBe_113 (by decide) (fun c113 => ?_) (fun c113 => ?_)
          · have hM := ite_f c113 hM
            refine lv_iconst (v := (0 : Int32)) hx hb dX0_canBe_127 (by decide) ?_
            cases hM
            exact rt false _ _ _ _ hP hS dX0_canBe_128 rfl
          · have hM := ite_t c113 hM
            refine lv_aload_n hx hb dX0_canBe_116 rfl (lv_at hl 1 rfl) ?_
            obtain ⟨x117, h117, hM⟩ := bind_e hM
            refine muV (As := []) (rest := []) (st2 := [.int (b2i x117.1)]) (nw := [(a_t, .inr (0, [.ref a_t_papers, .ref a_t_grants, .ref a_t_routes, .int x117.2.1, .int x117.2.2.1, .int x117.2.2.2])), (a_t_papers, .inr (1, [.int s_t_papers.1, .int s_t_papers.2.1, .ref a_t_papers_cells, .int s_t_papers.2.2])), (a_t_routes, .inr (1, [.int s_t_routes.1, .int s_t_routes.2.1, .ref a_t_routes_cells, .int s_t_routes.2.2])), (a_t_papers_cells, .inl (cI, s_t_papers_cells.1, .inl s_t_papers_cells.2)), (a_t_grants, .inr (1, [.int s_t_grants.1, .int s_t_grants.2.1, .ref a_t_grants_cells, .int s_t_grants.2.2])), (a_t_grants_cells, .inl (cI, s_t_grants_cells.1, .inl s_t_grants_cells.2)), (a_t_routes_cells, .inl (cI, s_t_routes_cells.1, .inl s_t_routes_cells.2))]) ⟨hx, hb, hml, hown, hU⟩ hE (okX0_canPassNight a_t a_t_papers a_t_grants a_t_routes s_t x117 h117) lk_X0_87 hP hD hS hA [0] rfl rfl rfl rfl rfl rfl hl.1 rfl (Nat.le_of_ble_eq_true rfl) ⟨Nat.le_of_ble_eq_true rfl, Nat.le_of_ble_eq_true rfl⟩ dX0_canBe_117 ⟨Nat.le_refl _, Nat.le_refl _⟩ rfl rfl rfl rfl (fun H locs hP hD hS => ?_)
            refine lv_if_eq (tgt := 127) hx hb dX0_canBe_120 (by decide) (fun c120 => ?_) (fun c120 => ?_)
            · have hM := ite_f (b2i_eq0 c120) hM
              refine lv_iconst (v := (0 : Int32)) hx hb dX0_canBe_127 (by decide) ?_
              cases hM
              exact rt false _ _ _ _ hP hS dX0_canBe_128 rfl
            · have hM := ite_t (b2i_ne0 c120) hM
              refine lv_iconst (v := (1 : Int32)) hx hb dX0_canBe_123 (by decide) ?_
              refine lv_goto (tgt := 128) hx hb dX0_canBe_124 (by decide) ?_
              cases hM
              exact rt true _ _ _ _ hP hS dX0_canBe_128 rfl
    have hM := ite_f c35_1 hM
    by_cases c35_2 : (v1 / (1000 : Int32)) = (3 : Int32)
    · have hM := ite_t c35_2 hM
      refine lv_tableIn (off := 94) (tgt := 129) hx hb dX0_canBe_35 (by rw [c35_2]; decide) (by rw [c35_2]; decide) (by rw [c35_2]; rfl) (by decide) ?_
      refine lv_iload hx hb dX0_canBe_129 (lv_at hl 0 rfl) ?_
      refine lv_if_eq (tgt := 150) hx hb dX0_canBe_131 (by decide) (fun c131 => ?_) (fun c131 => ?_)
      · have hM := ite_f (b2i_eq0 c131) hM
        refine lv_iconst (v := (0 : Int32)) hx hb dX0_canBe_150 (by decide) ?_
        cases hM
        exact rt false _ _ _ _ hP hS dX0_canBe_151 rfl
      · have hM := ite_t (b2i_ne0 c131) hM
        refine lv_iload_n hx hb dX0_canBe_134 rfl (lv_at hl 4 rfl) ?_
        refine lv_if_ne (tgt := 150) hx hb dX0_canBe_135 (by decide) (fun c135 => ?_) (fun c135 => ?_)
        · have hM := ite_f c135 hM
          refine lv_iconst (v := (0 : Int32)) hx hb dX0_canBe_150 (by decide) ?_
          cases hM
          exact rt false _ _ _ _ hP hS dX0_canBe_151 rfl
        · have hM := ite_t c135 hM
          refine lv_aload_n hx hb dX0_canBe_138 rfl (lv_at hl 1 rfl) ?_
          refine lv_iload_n hx hb dX0_canBe_139 rfl (lv_at hl 3 rfl) ?_
          obtain ⟨x140, h140, hM⟩ := bind_e hM
          refine muV (As := [.int z7]) (rest := []) (st2 := [.int (b2i x140.1)]) (nw := [(a_t, .inr (0, [.ref a_t_papers, .ref a_t_grants, .ref a_t_routes, .int x140.2.1, .int x140.2.2.1, .int x140.2.2.2])), (a_t_papers, .inr (1, [.int s_t_papers.1, .int s_t_papers.2.1, .ref a_t_papers_cells, .int s_t_papers.2.2])), (a_t_routes, .inr (1, [.int s_t_routes.1, .int s_t_routes.2.1, .ref a_t_routes_cells, .int s_t_routes.2.2])), (a_t_papers_cells, .inl (cI, s_t_papers_cells.1, .inl s_t_papers_cells.2)), (a_t_grants, .inr (1, [.int s_t_grants.1, .int s_t_grants.2.1, .ref a_t_grants_cells, .int s_t_grants.2.2])), (a_t_grants_cells, .inl (cI, s_t_grants_cells.1, .inl s_t_grants_cells.2)), (a_t_routes_cells, .inl (cI, s_t_routes_cells.1, .inl s_t_routes_cells.2))]) ⟨hx, hb, hml, hown, hU⟩ hE (okX0_canSetAside a_t a_t_papers a_t_grants a_t_routes s_t z7 x140 h140) lk_X0_91 hP hD hS hA [0] rfl rfl rfl rfl rfl rfl hl.1 rfl (Nat.le_of_ble_eq_true rfl) ⟨Nat.le_of_ble_eq_true rfl, Nat.le_of_ble_eq_true rfl⟩ dX0_canBe_140 ⟨Nat.le_refl _, Nat.le_refl _⟩ rfl rfl rfl rfl (fun H locs hP hD hS => ?_)
          refine lv_if_eq (tgt := 150) hx hb dX0_canBe_143 (by decide) (fun c143 => ?_) (fun c143 => ?_)
          · have hM := ite_f (b2i_eq0 c143) hM
            refine lv_iconst (v := (0 : Int32)) hx hb dX0_canBe_150 (by decide) ?_
            cases hM
            exact rt false _ _ _ _ hP hS dX0_canBe_151 rfl
          · have hM := ite_t (b2i_ne0 c143) hM
            refine lv_iconst (v := (1 : Int32)) hx hb dX0_canBe_146 (by decide) ?_
            refine lv_goto (tgt := 151) hx hb dX0_canBe_147 (by decide) ?_
            cases hM
            exact rt true _ _ _ _ hP hS dX0_canBe_151 rfl
    have hM := ite_f c35_2 hM
    by_cases c35_3 : (v1 / (1000 : Int32)) = (4 : Int32)
    · have hM := ite_t c35_3 hM
      refine lv_tableIn (off := 117) (tgt := 152) hx hb dX0_canBe_35 (by rw [c35_3]; decide) (by rw [c35_3]; decide) (by rw [c35_3]; rfl) (by decide) ?_
      refine lv_iload hx hb dX0_canBe_152 (lv_at hl 0 rfl) ?_
      refine lv_if_eq (tgt := 189) hx hb dX0_canBe_154 (by decide) (fun c154 => ?_) (fun c154 => ?_)
      · have hM := ite_f (b2i_eq0 c154) hM
        refine lv_iconst (v := (0 : Int32)) hx hb dX0_canBe_189 (by decide) ?_
        cases hM
        exact rt false _ _ _ _ hP hS dX0_canBe_190 rfl
      · have hM := ite_t (b2i_ne0 c154) hM
        refine lv_aload_n hx hb dX0_canBe_157 rfl (lv_at hl 1 rfl) ?_
        refine va_get (D := (dC, dI)) (ci := 0) (v := .ref a_t_routes) (C := RX0) (T := TX0) (N := 6) hx hb hU inlX0 hown hE.1 hP 0 rfl rfl 2 (by decide) (hU _ u_3_1) (fun _ h9 => h9) rfl dX0_canBe_158 ?_
        refine lv_iload_n hx hb dX0_canBe_161 rfl (lv_at hl 3 rfl) ?_
        obtain ⟨x162, h162, hM⟩ := bind_e hM
        refine rdV (As := [.int z7]) (rest := []) (st2 := [.int (b2i x162)]) ⟨hx, hb, hml, hown, hU⟩ hE (okX1_has a_t_routes a_t_routes_cells s_t_routes z7 x162 h162) lk_X0_94 (hP.sub [2] rfl) rfl rfl rfl hl.1 rfl (Nat.le_of_ble_eq_true rfl) ⟨Nat.le_of_ble_eq_true rfl, Nat.le_of_ble_eq_true rfl⟩ dX0_canBe_162 ⟨Nat.le_refl _, Nat.le_refl _⟩ rfl ?_
        refine lv_if_eq (tgt := 189) hx hb dX0_canBe_165 (by decide) (fun c165 => ?_) (fun c165 => ?_)
        · have hM := ite_f (b2i_eq0 c165) hM
          refine lv_iconst (v := (0 : Int32)) hx hb dX0_canBe_189 (by decide) ?_
          cases hM
          exact rt false _ _ _ _ hP hS dX0_canBe_190 rfl
        · have hM := ite_t (b2i_ne0 c165) hM
          refine lv_aload_n hx hb dX0_canBe_168 rfl (lv_at hl 1 rfl) ?_
          refine lv_iload_n hx hb dX0_canBe_169 rfl (lv_at hl 4 rfl) ?_
          refine lv_aload_n hx hb dX0_canBe_170 rfl (lv_at hl 1 rfl) ?_
          obtain ⟨x171, h171, hM⟩ := bind_e hM
          refine rdV (As := []) (rest := [.int (v1 - v1 / (10 : Int32) * (10 : Int32)), .ref a_t]) (st2 := [.int x171, .int (v1 - v1 / (10 : Int32) * (10 : Int32)), .ref a_t]) ⟨hx, hb, hml, hown, hU⟩ hE (okX0_countingNow a_t a_t_papers a_t_grants a_t_routes a_t_papers_cells a_t_grants_cells s_t s_t_papers s_t_papers_cells s_t_grants s_t_grants_cells x171 h171) lk_X0_68 (hP.sub [0, 1, 3, 4, 5] rfl) rfl rfl rfl hl.1 rfl (Nat.le_of_ble_eq_true rfl) ⟨Nat.le_of_ble_eq_true rfl, Nat.le_of_ble_eq_true rfl⟩ dX0_canBe_171 ⟨Nat.le_refl _, Nat.le_refl _⟩ rfl ?_
          obtain ⟨x174, h174, hM⟩ := bind_e hM
          refine rdV (As := [.int (v1 - v1 / (10 : Int32) * (10 : Int32)), .int x171]) (rest := []) (st2 := [.int x174]) ⟨hx, hb, hml, hown, hU⟩ hE (okX0_routesThatAre a_t a_t_papers a_t_grants a_t_routes a_t_routes_cells a_t_grants_cells s_t s_t_routes s_t_routes_cells s_t_grants s_t_grants_cells (v1 - v1 / (10 : Int32) * (10 : Int32)) x171 x174 h174) lk_X0_65 (hP.sub [0, 2, 6, 4, 5] rfl) rfl rfl rfl hl.1 rfl (Nat.le_of_ble_eq_true rfl) ⟨Nat.le_of_ble_eq_true rfl, Nat.le_of_ble_eq_true rfl⟩ dX0_canBe_174 ⟨Nat.le_refl _, Nat.le_refl _⟩ rfl ?_
          refine lv_iload_n hx hb dX0_canBe_177 rfl (lv_at hl 3 rfl) ?_
          obtain ⟨x178, h178, hM⟩ := bind_e hM
          refine rdN (As := [.int x174, .int z7]) (rest := []) (st2 := [.int x178]) ⟨hx, hb, hml, hown, hU⟩ hE hE.2.2.2.2.1 (okX3_bit x174 z7 x178 h178) kn_X3_bit (hP.sub [] rfl) rfl hl.1 rfl (Nat.le_of_ble_eq_true rfl) ⟨Nat.le_of_ble_eq_true rfl, Nat.le_of_ble_eq_true rfl⟩ dX0_canBe_178 ⟨Nat.le_refl _, Nat.le_refl _⟩ rfl ?_
          refine lv_iconst (v := (1 : Int32)) hx hb dX0_canBe_181 (by decide) ?_
          refine lv_icmp_ne (tgt := 189) hx hb dX0_canBe_182 (by decide) (fun c182 => ?_) (fun c182 => ?_)
          · have hM := ite_f c182 hM
            refine lv_iconst (v := (0 : Int32)) hx hb dX0_canBe_189 (by decide) ?_
            cases hM
            exact rt false _ _ _ _ hP hS dX0_canBe_190 rfl
          · have hM := ite_t c182 hM
            refine lv_iconst (v := (1 : Int32)) hx hb dX0_canBe_185 (by decide) ?_
            refine lv_goto (tgt := 190) hx hb dX0_canBe_186 (by decide) ?_
            cases hM
            exact rt true _ _ _ _ hP hS dX0_canBe_190 rfl
    have hM := ite_f c35_3 hM
    by_cases c35_4 : (v1 / (1000 : Int32)) = (5 : Int32)
    · have hM := ite_t c35_4 hM
      refine lv_tableIn (off := 156) (tgt := 191) hx hb dX0_canBe_35 (by rw [c35_4]; decide) (by rw [c35_4]; decide) (by rw [c35_4]; rfl) (by decide) ?_
      refine lv_iload_n hx hb dX0_canBe_191 rfl (lv_at hl 3 rfl) ?_
      obtain ⟨x192, h192, hM⟩ := bind_e hM
      refine rdN (As := [.int z7]) (rest := []) (st2 := [.int (b2i x192)]) ⟨hx, hb, hml, hown, hU⟩ hE hE.2.2.2.2.2.2.2.1 (okX3_isLaw z7 x192 h192) kn_X3_isLaw (hP.sub [] rfl) rfl hl.1 rfl (Nat.le_of_ble_eq_true rfl) ⟨Nat.le_of_ble_eq_true rfl, Nat.le_of_ble_eq_true rfl⟩ dX0_canBe_192 ⟨Nat.le_refl _, Nat.le_refl _⟩ rfl ?_
      refine lv_if_eq (tgt := 226) hx hb dX0_canBe_195 (by decide) (fun c195 => ?_) (fun c195 => ?_)
      · have hM := ite_f (b2i_eq0 c195) hM
        refine lv_iconst (v := (0 : Int32)) hx hb dX0_canBe_226 (by decide) ?_
        cases hM
        exact rt false _ _ _ _ hP hS dX0_canBe_227 rfl
      · have hM := ite_t (b2i_ne0 c195) hM
        refine lv_iload_n hx hb dX0_canBe_198 rfl (lv_at hl 2 rfl) ?_
        refine lv_bipush (v := (100 : Int32)) hx hb dX0_canBe_199 (by decide) ?_
        refine lv_irem hx hb dX0_canBe_201 (by decide) ?_
        obtain ⟨x202, h202, hM⟩ := bind_e hM
        refine rdN (As := [.int (v1 - v1 / (100 : Int32) * (100 : Int32))]) (rest := []) (st2 := [.int (b2i x202)]) ⟨hx, hb, hml, hown, hU⟩ hE hE.2.2.2.2.2.2.2.2 (okX3_isPlace (v1 - v1 / (100 : Int32) * (100 : Int32)) x202 h202) kn_X3_isPlace (hP.sub [] rfl) rfl hl.1 rfl (Nat.le_of_ble_eq_true rfl) ⟨Nat.le_of_ble_eq_true rfl, Nat.le_of_ble_eq_true rfl⟩ dX0_canBe_202 ⟨Nat.le_refl _, Nat.le_refl _⟩ rfl ?_
        refine lv_if_eq (tgt := 226) hx hb dX0_canBe_205 (by decide) (fun c205 => ?_) (fun c205 => ?_)
        · have hM := ite_f (b2i_eq0 c205) hM
          refine lv_iconst (v := (0 : Int32)) hx hb dX0_canBe_226 (by decide) ?_
          cases hM
          exact rt false _ _ _ _ hP hS dX0_canBe_227 rfl
        · have hM := ite_t (b2i_ne0 c205) hM
          refine lv_aload_n hx hb dX0_canBe_208 rfl (lv_at hl 1 rfl) ?_
          refine lv_iload_n hx hb dX0_canBe_209 rfl (lv_at hl 2 rfl) ?_
          refine lv_bipush (v := (100 : Int32)) hx hb dX0_canBe_210 (by decide) ?_
          refine lv_irem hx hb dX0_canBe_212 (by decide) ?_
          refine lv_iload_n hx hb dX0_canBe_213 rfl (lv_at hl 3 rfl) ?_
          obtain ⟨x214, h214, hM⟩ := bind_e hM
          refine rdV (As := [.int (v1 - v1 / (100 : Int32) * (100 : Int32)), .int z7]) (rest := []) (st2 := [.int x214]) ⟨hx, hb, hml, hown, hU⟩ hE (okX0_routeTo a_t a_t_papers a_t_grants a_t_routes a_t_papers_cells a_t_grants_cells a_t_routes_cells s_t s_t_papers s_t_papers_cells s_t_grants s_t_grants_cells s_t_routes s_t_routes_cells (v1 - v1 / (100 : Int32) * (100 : Int32)) z7 x214 h214) lk_X0_103 (hP.sub [0, 1, 3, 4, 5, 2, 6] rfl) rfl rfl rfl hl.1 rfl (Nat.le_of_ble_eq_true rfl) ⟨Nat.le_of_ble_eq_true rfl, Nat.le_of_ble_eq_true rfl⟩ dX0_canBe_214 ⟨Nat.le_refl _, Nat.le_refl _⟩ rfl ?_
          refine lv_bipush (v := (-9 : Int32)) hx hb dX0_canBe_217 (by decide) ?_
          refine lv_icmp_ne (tgt := 226) hx hb dX0_canBe_219 (by decide) (fun c219 => ?_) (fun c219 => ?_)
          · have hM := ite_f c219 hM
            refine lv_iconst (v := (0 : Int32)) hx hb dX0_canBe_226 (by decide) ?_
            cases hM
            exact rt false _ _ _ _ hP hS dX0_canBe_227 rfl
          · have hM := ite_t c219 hM
            refine lv_iconst (v := (1 : Int32)) hx hb dX0_canBe_222 (by decide) ?_
            refine lv_goto (tgt := 227) hx hb dX0_canBe_223 (by decide) ?_
            cases hM
            exact rt true _ _ _ _ hP hS dX0_canBe_227 rfl
    have hM := ite_f c35_4 hM
    by_cases c35_5 : (v1 / (1000 : Int32)) = (6 : Int32)
    · have hM := ite_t c35_5 hM
      refine lv_tableIn (off := 193) (tgt := 228) hx hb dX0_canBe_35 (by rw [c35_5]; decide) (by rw [c35_5]; decide) (by rw [c35_5]; rfl) (by decide) ?_
      refine lv_iload hx hb dX0_canBe_228 (lv_at hl 0 rfl) ?_
      refine lv_if_eq (tgt := 264) hx hb dX0_canBe_230 (by decide) (fun c230 => ?_) (fun c230 => ?_)
      · have hM := ite_f (b2i_eq0 c230) hM
        refine lv_iconst (v := (0 : Int32)) hx hb dX0_canBe_264 (by decide) ?_
        cases hM
        exact rt false _ _ _ _ hP hS dX0_canBe_265 rfl
      · have hM := ite_t (b2i_ne0 c230) hM
        refine lv_aload_n hx hb dX0_canBe_233 rfl (lv_at hl 1 rfl) ?_
        refine va_get (D := (dC, dI)) (ci := 0) (v := .ref a_t_papers) (C := RX0) (T := TX0) (N := 6) hx hb hU inlX0 hown hE.1 hP 0 rfl rfl 0 (by decide) (hU _ u_3_2) (fun _ h9 => h9) rfl dX0_canBe_234 ?_
        refine lv_iload_n hx hb dX0_canBe_237 rfl (lv_at hl 3 rfl) ?_
        obtain ⟨x238, h238, hM⟩ := bind_e hM
        refine rdV (As := [.int z7]) (rest := []) (st2 := [.int (b2i x238)]) ⟨hx, hb, hml, hown, hU⟩ hE (okX1_has a_t_papers a_t_papers_cells s_t_papers z7 x238 h238) lk_X0_94 (hP.sub [1] rfl) rfl rfl rfl hl.1 rfl (Nat.le_of_ble_eq_true rfl) ⟨Nat.le_of_ble_eq_true rfl, Nat.le_of_ble_eq_true rfl⟩ dX0_canBe_238 ⟨Nat.le_refl _, Nat.le_refl _⟩ rfl ?_
        refine lv_if_eq (tgt := 264) hx hb dX0_canBe_241 (by decide) (fun c241 => ?_) (fun c241 => ?_)
        · have hM := ite_f (b2i_eq0 c241) hM
          refine lv_iconst (v := (0 : Int32)) hx hb dX0_canBe_264 (by decide) ?_
          cases hM
          exact rt false _ _ _ _ hP hS dX0_canBe_265 rfl
        · have hM := ite_t (b2i_ne0 c241) hM
          refine lv_aload_n hx hb dX0_canBe_244 rfl (lv_at hl 1 rfl) ?_
          refine lv_aload_n hx hb dX0_canBe_245 rfl (lv_at hl 1 rfl) ?_
          refine va_get (D := (dC, dI)) (ci := 0) (v := .int s_t.1) (C := RX0) (T := TX0) (N := 6) hx hb hU inlX0 hown hE.1 hP 0 rfl rfl 3 (by decide) (hU _ u_11_2) (fun _ h9 => h9) rfl dX0_canBe_246 ?_
          obtain ⟨x249, h249, hM⟩ := bind_e hM
          refine rdV (As := [.int s_t.1]) (rest := []) (st2 := [.int x249]) ⟨hx, hb, hml, hown, hU⟩ hE (okX0_standing a_t a_t_papers a_t_grants a_t_routes a_t_papers_cells s_t s_t_papers s_t_papers_cells s_t.1 x249 h249) lk_X0_54 (hP.sub [0, 1, 3] rfl) rfl rfl rfl hl.1 rfl (Nat.le_of_ble_eq_true rfl) ⟨Nat.le_of_ble_eq_true rfl, Nat.le_of_ble_eq_true rfl⟩ dX0_canBe_249 ⟨Nat.le_refl _, Nat.le_refl _⟩ rfl ?_
          refine lv_iload_n hx hb dX0_canBe_252 rfl (lv_at hl 3 rfl) ?_
          obtain ⟨x253, h253, hM⟩ := bind_e hM
          refine rdN (As := [.int x249, .int z7]) (rest := []) (st2 := [.int x253]) ⟨hx, hb, hml, hown, hU⟩ hE hE.2.2.2.2.1 (okX3_bit x249 z7 x253 h253) kn_X3_bit (hP.sub [] rfl) rfl hl.1 rfl (Nat.le_of_ble_eq_true rfl) ⟨Nat.le_of_ble_eq_true rfl, Nat.le_of_ble_eq_true rfl⟩ dX0_canBe_253 ⟨Nat.le_refl _, Nat.le_refl _⟩ rfl ?_
          refine lv_iload_n hx hb dX0_canBe_256 rfl (lv_at hl 4 rfl) ?_
          refine lv_icmp_ne (tgt := 264) hx hb dX0_canBe_257 (by decide) (fun c257 => ?_) (fun c257 => ?_)
          · have hM := ite_f c257 hM
            refine lv_iconst (v := (0 : Int32)) hx hb dX0_canBe_264 (by decide) ?_
            cases hM
            exact rt false _ _ _ _ hP hS dX0_canBe_265 rfl
          · have hM := ite_t c257 hM
            refine lv_iconst (v := (1 : Int32)) hx hb dX0_canBe_260 (by decide) ?_
            refine lv_goto (tgt := 265) hx hb dX0_canBe_261 (by decide) ?_
            cases hM
            exact rt true _ _ _ _ hP hS dX0_canBe_265 rfl
    have hM := ite_f c35_5 hM
    by_cases c35_6 : (v1 / (1000 : Int32)) = (7 : Int32)
    · have hM := ite_t c35_6 hM
      refine lv_tableIn (off := 231) (tgt := 266) hx hb dX0_canBe_35 (by rw [c35_6]; decide) (by rw [c35_6]; decide) (by rw [c35_6]; rfl) (by decide) ?_
      refine lv_iload hx hb dX0_canBe_266 (lv_at hl 0 rfl) ?_
      refine lv_if_eq (tgt := 298) hx hb dX0_canBe_268 (by decide) (fun c268 => ?_) (fun c268 => ?_)
      · have hM := ite_f (b2i_eq0 c268) hM
        refine lv_iconst (v := (0 : Int32)) hx hb dX0_canBe_298 (by decide) ?_
        cases hM
        exact rt false _ _ _ _ hP hS dX0_canBe_299 rfl
      · have hM := ite_t (b2i_ne0 c268) hM
        refine lv_aload_n hx hb dX0_canBe_271 rfl (lv_at hl 1 rfl) ?_
        refine va_get (D := (dC, dI)) (ci := 0) (v := .ref a_t_grants) (C := RX0) (T := TX0) (N := 6) hx hb hU inlX0 hown hE.1 hP 0 rfl rfl 1 (by decide) (hU _ u_3_0) (fun _ h9 => h9) rfl dX0_canBe_272 ?_
        refine lv_iload_n hx hb dX0_canBe_275 rfl (lv_at hl 3 rfl) ?_
        obtain ⟨x276, h276, hM⟩ := bind_e hM
        refine rdV (As := [.int z7]) (rest := []) (st2 := [.int (b2i x276)]) ⟨hx, hb, hml, hown, hU⟩ hE (okX1_has a_t_grants a_t_grants_cells s_t_grants z7 x276 h276) lk_X0_94 (hP.sub [4] rfl) rfl rfl rfl hl.1 rfl (Nat.le_of_ble_eq_true rfl) ⟨Nat.le_of_ble_eq_true rfl, Nat.le_of_ble_eq_true rfl⟩ dX0_canBe_276 ⟨Nat.le_refl _, Nat.le_refl _⟩ rfl ?_
        refine lv_if_eq (tgt := 298) hx hb dX0_canBe_279 (by decide) (fun c279 => ?_) (fun c279 => ?_)
        · have hM := ite_f (b2i_eq0 c279) hM
          refine lv_iconst (v := (0 : Int32)) hx hb dX0_canBe_298 (by decide) ?_
          cases hM
          exact rt false _ _ _ _ hP hS dX0_canBe_299 rfl
        · have hM := ite_t (b2i_ne0 c279) hM
          refine lv_aload_n hx hb dX0_canBe_282 rfl (lv_at hl 1 rfl) ?_
          obtain ⟨x283, h283, hM⟩ := bind_e hM
          refine rdV (As := []) (rest := []) (st2 := [.int x283]) ⟨hx, hb, hml, hown, hU⟩ hE (okX0_countingNow a_t a_t_papers a_t_grants a_t_routes a_t_papers_cells a_t_grants_cells s_t s_t_papers s_t_papers_cells s_t_grants s_t_grants_cells x283 h283) lk_X0_68 (hP.sub [0, 1, 3, 4, 5] rfl) rfl rfl rfl hl.1 rfl (Nat.le_of_ble_eq_true rfl) ⟨Nat.le_of_ble_eq_true rfl, Nat.le_of_ble_eq_true rfl⟩ dX0_canBe_283 ⟨Nat.le_refl _, Nat.le_refl _⟩ rfl ?_
          refine lv_iload_n hx hb dX0_canBe_286 rfl (lv_at hl 3 rfl) ?_
          obtain ⟨x287, h287, hM⟩ := bind_e hM
          refine rdN (As := [.int x283, .int z7]) (rest := []) (st2 := [.int x287]) ⟨hx, hb, hml, hown, hU⟩ hE hE.2.2.2.2.1 (okX3_bit x283 z7 x287 h287) kn_X3_bit (hP.sub [] rfl) rfl hl.1 rfl (Nat.le_of_ble_eq_true rfl) ⟨Nat.le_of_ble_eq_true rfl, Nat.le_of_ble_eq_true rfl⟩ dX0_canBe_287 ⟨Nat.le_refl _, Nat.le_refl _⟩ rfl ?_
          refine lv_iload_n hx hb dX0_canBe_290 rfl (lv_at hl 4 rfl) ?_
          refine lv_icmp_ne (tgt := 298) hx hb dX0_canBe_291 (by decide) (fun c291 => ?_) (fun c291 => ?_)
          · have hM := ite_f c291 hM
            refine lv_iconst (v := (0 : Int32)) hx hb dX0_canBe_298 (by decide) ?_
            cases hM
            exact rt false _ _ _ _ hP hS dX0_canBe_299 rfl
          · have hM := ite_t c291 hM
            refine lv_iconst (v := (1 : Int32)) hx hb dX0_canBe_294 (by decide) ?_
            refine lv_goto (tgt := 299) hx hb dX0_canBe_295 (by decide) ?_
            cases hM
            exact rt true _ _ _ _ hP hS dX0_canBe_299 rfl
    have hM := ite_f c35_6 hM
    by_cases c35_7 : (v1 / (1000 : Int32)) = (8 : Int32)
    · have hM := ite_t c35_7 hM
      refine lv_tableIn (off := 265) (tgt := 300) hx hb dX0_canBe_35 (by rw [c35_7]; decide) (by rw [c35_7]; decide) (by rw [c35_7]; rfl) (by decide) ?_
      refine lv_iload hx hb dX0_canBe_300 (lv_at hl 0 rfl) ?_
      refine lv_if_eq (tgt := 321) hx hb dX0_canBe_302 (by decide) (fun c302 => ?_) (fun c302 => ?_)
      · have hM := ite_f (b2i_eq0 c302) hM
        refine lv_iconst (v := (0 : Int32)) hx hb dX0_canBe_321 (by decide) ?_
        cases hM
        exact rt false _ _ _ _ hP hS dX0_canBe_322 rfl
      · have hM := ite_t (b2i_ne0 c302) hM
        refine lv_iload_n hx hb dX0_canBe_305 rfl (lv_at hl 4 rfl) ?_
        refine lv_if_ne (tgt := 321) hx hb dX0_canBe_306 (by decide) (fun c306 => ?_) (fun c306 => ?_)
        · have hM := ite_f c306 hM
          refine lv_iconst (v := (0 : Int32)) hx hb dX0_canBe_321 (by decide) ?_
          cases hM
          exact rt false _ _ _ _ hP hS dX0_canBe_322 rfl
        · have hM := ite_t c306 hM
          refine lv_aload_n hx hb dX0_canBe_309 rfl (lv_at hl 1 rfl) ?_
          refine lv_iload_n hx hb dX0_canBe_310 rfl (lv_at hl 3 rfl) ?_
          obtain ⟨x311, h311, hM⟩ := bind_e hM
          refine muV (As := [.int z7]) (rest := []) (st2 := [.int (b2i x311.1)]) (nw := [(a_t, .inr (0, [.ref a_t_papers, .ref a_t_grants, .ref a_t_routes, .int s_t.1, .int s_t.2.1, .int s_t.2.2])), (a_t_papers, .inr (1, [.int s_t_papers.1, .int s_t_papers.2.1, .ref a_t_papers_cells, .int s_t_papers.2.2])), (a_t_routes, .inr (1, [.int x311.2.1.1, .int x311.2.1.2.1, .ref a_t_routes_cells, .int x311.2.1.2.2])), (a_t_papers_cells, .inl (cI, s_t_papers_cells.1, .inl s_t_papers_cells.2)), (a_t_grants, .inr (1, [.int s_t_grants.1, .int s_t_grants.2.1, .ref a_t_grants_cells, .int s_t_grants.2.2])), (a_t_grants_cells, .inl (cI, s_t_grants_cells.1, .inl s_t_grants_cells.2)), (a_t_routes_cells, .inl (cI, x311.2.2.1, .inl x311.2.2.2))]) ⟨hx, hb, hml, hown, hU⟩ hE (okX0_canWithdraw a_t a_t_papers a_t_grants a_t_routes a_t_routes_cells s_t s_t_routes s_t_routes_cells z7 x311 h311) lk_X0_106 hP hD hS hA [0, 2, 6] rfl rfl rfl rfl rfl rfl hl.1 rfl (Nat.le_of_ble_eq_true rfl) ⟨Nat.le_of_ble_eq_true rfl, Nat.le_of_ble_eq_true rfl⟩ dX0_canBe_311 ⟨Nat.le_refl _, Nat.le_refl _⟩ rfl rfl rfl rfl (fun H locs hP hD hS => ?_)
          refine lv_if_eq (tgt := 321) hx hb dX0_canBe_314 (by decide) (fun c314 => ?_) (fun c314 => ?_)
          · have hM := ite_f (b2i_eq0 c314) hM
            refine lv_iconst (v := (0 : Int32)) hx hb dX0_canBe_321 (by decide) ?_
            cases hM
            exact rt false _ _ _ _ hP hS dX0_canBe_322 rfl
          · have hM := ite_t (b2i_ne0 c314) hM
            refine lv_iconst (v := (1 : Int32)) hx hb dX0_canBe_317 (by decide) ?_
            refine lv_goto (tgt := 322) hx hb dX0_canBe_318 (by decide) ?_
            cases hM
            exact rt true _ _ _ _ hP hS dX0_canBe_322 rfl
    have hM := ite_f c35_7 hM
    refine lv_tableOut (tgt := 323) hx hb dX0_canBe_35 (sw_out (fun v h1 h2 h3 => by rcases (show v = 1 ∨ v = 2 ∨ v = 3 ∨ v = 4 ∨ v = 5 ∨ v = 6 ∨ v = 7 ∨ v = 8 by omega) with rfl | rfl | rfl | rfl | rfl | rfl | rfl | rfl <;> first | exact c35_0 (Int32.toInt_inj.mp (h3.trans (by decide))) | exact c35_1 (Int32.toInt_inj.mp (h3.trans (by decide))) | exact c35_2 (Int32.toInt_inj.mp (h3.trans (by decide))) | exact c35_3 (Int32.toInt_inj.mp (h3.trans (by decide))) | exact c35_4 (Int32.toInt_inj.mp (h3.trans (by decide))) | exact c35_5 (Int32.toInt_inj.mp (h3.trans (by decide))) | exact c35_6 (Int32.toInt_inj.mp (h3.trans (by decide))) | exact c35_7 (Int32.toInt_inj.mp (h3.trans (by decide))))) (by decide) ?_
    refine lv_iconst (v := (0 : Int32)) hx hb dX0_canBe_323 (by decide) ?_
    cases hM
    exact rt false _ _ _ _ hP hS dX0_canBe_324 rfl
  refine lv_if_ne (tgt := 27) hx hb dX0_canBe_20 (by decide) (fun c20 => ?_) (fun c20 => ?_)
  · have hM := ite_f c20 hM
    refine lv_iconst (v := (0 : Int32)) hx hb dX0_canBe_27 (by decide) ?_
    exact w_28 false hM ls _ _ hP hD hS (lv_sub hl [2, 3, 1, 0] rfl)
  · have hM := ite_t c20 hM
    refine lv_iconst (v := (1 : Int32)) hx hb dX0_canBe_23 (by decide) ?_
    refine lv_goto (tgt := 28) hx hb dX0_canBe_24 (by decide) ?_
    exact w_28 true hM ls _ _ hP hD hS (lv_sub hl [2, 3, 1, 0] rfl)
noncomputable def mX0_copyFrom (s_t : Int32 × Int32 × Int32) (s_q1 : Int32 × Int32 × Int32) (s_t_grants : Int32 × Int32 × Int32) (s_q1_grants : Int32 × Int32 × Int32) (s_q1_grants_cells : Ar) (s_t_grants_cells : Ar) (s_t_routes : Int32 × Int32 × Int32) (s_q1_routes : Int32 × Int32 × Int32) (s_q1_routes_cells : Ar) (s_t_routes_cells : Ar) : Option ((Int32 × Int32 × Int32) × (Int32 × Int32 × Int32) × Ar × (Int32 × Int32 × Int32) × Ar) := (mX1_copyFrom s_t_grants s_q1_grants s_q1_grants_cells s_t_grants_cells).bind (fun x8 => (mX1_copyFrom s_t_routes s_q1_routes s_q1_routes_cells s_t_routes_cells).bind (fun x19 => some ((s_q1.1, s_q1.2.1, s_q1.2.2), x8.1, x8.2, x19.1, x19.2)))
set_option maxHeartbeats 4000000 in
set_option maxRecDepth 100000 in
theorem okX0_copyFrom {l : Launch} {dC : Nat → ClassId} {dI : Nat → Nat → Nat} {cI cC cZ : ClassId} (a_t a_t_papers a_t_grants a_t_routes a_q1 a_q1_papers a_q1_grants a_q1_routes a_t_grants_cells a_q1_grants_cells a_t_routes_cells a_q1_routes_cells : Nat) (s_t : Int32 × Int32 × Int32) (s_q1 : Int32 × Int32 × Int32) (s_t_grants : Int32 × Int32 × Int32) (s_q1_grants : Int32 × Int32 × Int32) (s_q1_grants_cells : Ar) (s_t_grants_cells : Ar) (s_t_routes : Int32 × Int32 × Int32) (s_q1_routes : Int32 × Int32 × Int32) (s_q1_routes_cells : Ar) (s_t_routes_cells : Ar) (res : (Int32 × Int32 × Int32) × (Int32 × Int32 × Int32) × Ar × (Int32 × Int32 × Int32) × Ar) (hM : mX0_copyFrom s_t s_q1 s_t_grants s_q1_grants s_q1_grants_cells s_t_grants_cells s_t_routes s_q1_routes s_q1_routes_cells s_t_routes_cells = some res) : Mu l yX0_copyFrom cX0_copyFrom 2 none 2 61 (dC, dI) cI cC cZ [(a_t, .inr (0, [.ref a_t_papers, .ref a_t_grants, .ref a_t_routes, .int s_t.1, .int s_t.2.1, .int s_t.2.2])), (a_q1, .inr (0, [.ref a_q1_papers, .ref a_q1_grants, .ref a_q1_routes, .int s_q1.1, .int s_q1.2.1, .int s_q1.2.2])), (a_t_grants, .inr (1, [.int s_t_grants.1, .int s_t_grants.2.1, .ref a_t_grants_cells, .int s_t_grants.2.2])), (a_q1_grants, .inr (1, [.int s_q1_grants.1, .int s_q1_grants.2.1, .ref a_q1_grants_cells, .int s_q1_grants.2.2])), (a_q1_grants_cells, .inl (cI, s_q1_grants_cells.1, .inl s_q1_grants_cells.2)), (a_t_grants_cells, .inl (cI, s_t_grants_cells.1, .inl s_t_grants_cells.2)), (a_t_routes, .inr (1, [.int s_t_routes.1, .int s_t_routes.2.1, .ref a_t_routes_cells, .int s_t_routes.2.2])), (a_q1_routes, .inr (1, [.int s_q1_routes.1, .int s_q1_routes.2.1, .ref a_q1_routes_cells, .int s_q1_routes.2.2])), (a_q1_routes_cells, .inl (cI, s_q1_routes_cells.1, .inl s_q1_routes_cells.2)), (a_t_routes_cells, .inl (cI, s_t_routes_cells.1, .inl s_t_routes_cells.2))] [(a_t, .inr (0, [.ref a_t_papers, .ref a_t_grants, .ref a_t_routes, .int res.1.1, .int res.1.2.1, .int res.1.2.2])), (a_q1, .inr (0, [.ref a_q1_papers, .ref a_q1_grants, .ref a_q1_routes, .int s_q1.1, .int s_q1.2.1, .int s_q1.2.2])), (a_t_grants, .inr (1, [.int res.2.1.1, .int res.2.1.2.1, .ref a_t_grants_cells, .int res.2.1.2.2])), (a_q1_grants, .inr (1, [.int s_q1_grants.1, .int s_q1_grants.2.1, .ref a_q1_grants_cells, .int s_q1_grants.2.2])), (a_q1_grants_cells, .inl (cI, s_q1_grants_cells.1, .inl s_q1_grants_cells.2)), (a_t_grants_cells, .inl (cI, res.2.2.1.1, .inl res.2.2.1.2)), (a_t_routes, .inr (1, [.int res.2.2.2.1.1, .int res.2.2.2.1.2.1, .ref a_t_routes_cells, .int res.2.2.2.1.2.2])), (a_q1_routes, .inr (1, [.int s_q1_routes.1, .int s_q1_routes.2.1, .ref a_q1_routes_cells, .int s_q1_routes.2.2])), (a_q1_routes_cells, .inl (cI, s_q1_routes_cells.1, .inl s_q1_routes_cells.2)), (a_t_routes_cells, .inl (cI, res.2.2.2.2.1, .inl res.2.2.2.2.2))] [.ref a_t, .ref a_q1] none := by
  refine Mu.ofV (by decide) (Nat.le_of_ble_eq_true rfl) [(0, .ref a_t), (1, .ref a_q1)] rfl ?_
  intro p e s m args below meth c ls Q A hx hb hml hown hU hE hP hD hS hA rt hl
  have hown : s.vm.findClass RX0 = some m.cls := hown
  unfold mX0_copyFrom at hM
  refine lv_aload_n hx hb dX0_copyFrom_0 rfl (lv_at hl 0 rfl) ?_
  refine va_get (D := (dC, dI)) (ci := 0) (v := .ref a_t_grants) (C := RX0) (T := TX0) (N := 6) hx hb hU inlX0 hown hE.1 hP 0 rfl rfl 1 (by decide) (hU _ u_3_0) (fun _ h9 => h9) rfl dX0_copyFrom_1 ?_
  refine lv_aload_n hx hb dX0_copyFrom_4 rfl (lv_at hl 1 rfl) ?_
  refine va_get (D := (dC, dI)) (ci := 0) (v := .ref a_q1_grants) (C := RX0) (T := TX0) (N := 6) hx hb hU inlX0 hown hE.1 hP 1 rfl rfl 1 (by decide) (hU _ u_3_0) (fun _ h9 => h9) rfl dX0_copyFrom_5 ?_
  obtain ⟨x8, h8, hM⟩ := bind_e hM
  refine muV (As := [.ref a_q1_grants]) (rest := []) (st2 := []) (nw := [(a_t, .inr (0, [.ref a_t_papers, .ref a_t_grants, .ref a_t_routes, .int s_t.1, .int s_t.2.1, .int s_t.2.2])), (a_q1, .inr (0, [.ref a_q1_papers, .ref a_q1_grants, .ref a_q1_routes, .int s_q1.1, .int s_q1.2.1, .int s_q1.2.2])), (a_t_grants, .inr (1, [.int x8.1.1, .int x8.1.2.1, .ref a_t_grants_cells, .int x8.1.2.2])), (a_q1_grants, .inr (1, [.int s_q1_grants.1, .int s_q1_grants.2.1, .ref a_q1_grants_cells, .int s_q1_grants.2.2])), (a_q1_grants_cells, .inl (cI, s_q1_grants_cells.1, .inl s_q1_grants_cells.2)), (a_t_grants_cells, .inl (cI, x8.2.1, .inl x8.2.2)), (a_t_routes, .inr (1, [.int s_t_routes.1, .int s_t_routes.2.1, .ref a_t_routes_cells, .int s_t_routes.2.2])), (a_q1_routes, .inr (1, [.int s_q1_routes.1, .int s_q1_routes.2.1, .ref a_q1_routes_cells, .int s_q1_routes.2.2])), (a_q1_routes_cells, .inl (cI, s_q1_routes_cells.1, .inl s_q1_routes_cells.2)), (a_t_routes_cells, .inl (cI, s_t_routes_cells.1, .inl s_t_routes_cells.2))]) ⟨hx, hb, hml, hown, hU⟩ hE (okX1_copyFrom a_t_grants a_t_grants_cells a_q1_grants a_q1_grants_cells s_t_grants s_q1_grants s_q1_grants_cells s_t_grants_cells x8 h8) lk_X0_26 hP hD hS hA [2, 3, 4, 5] rfl rfl rfl rfl rfl rfl hl.1 rfl (Nat.le_of_ble_eq_true rfl) ⟨Nat.le_of_ble_eq_true rfl, Nat.le_of_ble_eq_true rfl⟩ dX0_copyFrom_8 ⟨Nat.le_refl _, Nat.le_refl _⟩ rfl rfl rfl rfl (fun H locs hP hD hS => ?_)
  refine lv_aload_n hx hb dX0_copyFrom_11 rfl (lv_at hl 0 rfl) ?_
  refine va_get (D := (dC, dI)) (ci := 0) (v := .ref a_t_routes) (C := RX0) (T := TX0) (N := 6) hx hb hU inlX0 hown hE.1 hP 0 rfl rfl 2 (by decide) (hU _ u_3_1) (fun _ h9 => h9) rfl dX0_copyFrom_12 ?_
  refine lv_aload_n hx hb dX0_copyFrom_15 rfl (lv_at hl 1 rfl) ?_
  refine va_get (D := (dC, dI)) (ci := 0) (v := .ref a_q1_routes) (C := RX0) (T := TX0) (N := 6) hx hb hU inlX0 hown hE.1 hP 1 rfl rfl 2 (by decide) (hU _ u_3_1) (fun _ h9 => h9) rfl dX0_copyFrom_16 ?_
  obtain ⟨x19, h19, hM⟩ := bind_e hM
  refine muV (As := [.ref a_q1_routes]) (rest := []) (st2 := []) (nw := [(a_t, .inr (0, [.ref a_t_papers, .ref a_t_grants, .ref a_t_routes, .int s_t.1, .int s_t.2.1, .int s_t.2.2])), (a_q1, .inr (0, [.ref a_q1_papers, .ref a_q1_grants, .ref a_q1_routes, .int s_q1.1, .int s_q1.2.1, .int s_q1.2.2])), (a_t_grants, .inr (1, [.int x8.1.1, .int x8.1.2.1, .ref a_t_grants_cells, .int x8.1.2.2])), (a_q1_grants, .inr (1, [.int s_q1_grants.1, .int s_q1_grants.2.1, .ref a_q1_grants_cells, .int s_q1_grants.2.2])), (a_q1_grants_cells, .inl (cI, s_q1_grants_cells.1, .inl s_q1_grants_cells.2)), (a_t_grants_cells, .inl (cI, x8.2.1, .inl x8.2.2)), (a_t_routes, .inr (1, [.int x19.1.1, .int x19.1.2.1, .ref a_t_routes_cells, .int x19.1.2.2])), (a_q1_routes, .inr (1, [.int s_q1_routes.1, .int s_q1_routes.2.1, .ref a_q1_routes_cells, .int s_q1_routes.2.2])), (a_q1_routes_cells, .inl (cI, s_q1_routes_cells.1, .inl s_q1_routes_cells.2)), (a_t_routes_cells, .inl (cI, x19.2.1, .inl x19.2.2))]) ⟨hx, hb, hml, hown, hU⟩ hE (okX1_copyFrom a_t_routes a_t_routes_cells a_q1_routes a_q1_routes_cells s_t_routes s_q1_routes s_q1_routes_cells s_t_routes_cells x19 h19) lk_X0_26 hP hD hS hA [6, 7, 8, 9] rfl rfl rfl rfl rfl rfl hl.1 rfl (Nat.le_of_ble_eq_true rfl) ⟨Nat.le_of_ble_eq_true rfl, Nat.le_of_ble_eq_true rfl⟩ dX0_copyFrom_19 ⟨Nat.le_refl _, Nat.le_refl _⟩ rfl rfl rfl rfl (fun H locs hP hD hS => ?_)
  refine lv_aload_n hx hb dX0_copyFrom_22 rfl (lv_at hl 0 rfl) ?_
  refine lv_aload_n hx hb dX0_copyFrom_23 rfl (lv_at hl 1 rfl) ?_
  refine va_get (D := (dC, dI)) (ci := 0) (v := .int s_q1.1) (C := RX0) (T := TX0) (N := 6) hx hb hU inlX0 hown hE.1 hP 1 rfl rfl 3 (by decide) (hU _ u_11_2) (fun _ h9 => h9) rfl dX0_copyFrom_24 ?_
  refine va_put (D := (dC, dI)) (ci := 0) (v := .int s_q1.1) (ty := .int) (C := RX0) (T := TX0) (N := 6) hx hb hU inlX0 tyX0 tyX0_ok nmX0 hown hE.1 hP hD hS 0 rfl rfl 3 (by decide) (hU _ u_11_2) (fun _ h9 => h9) rfl (tyX0_ok 3 (by decide)) rfl rfl (Nat.le_of_ble_eq_true rfl) dX0_copyFrom_27 (fun H locs hP hD hS => ?_)
  have hP : va_P (dC, dI) vwCl [(a_t, .inr (0, [.ref a_t_papers, .ref a_t_grants, .ref a_t_routes, .int s_q1.1, .int s_t.2.1, .int s_t.2.2])), (a_q1, .inr (0, [.ref a_q1_papers, .ref a_q1_grants, .ref a_q1_routes, .int s_q1.1, .int s_q1.2.1, .int s_q1.2.2])), (a_t_grants, .inr (1, [.int x8.1.1, .int x8.1.2.1, .ref a_t_grants_cells, .int x8.1.2.2])), (a_q1_grants, .inr (1, [.int s_q1_grants.1, .int s_q1_grants.2.1, .ref a_q1_grants_cells, .int s_q1_grants.2.2])), (a_q1_grants_cells, .inl (cI, s_q1_grants_cells.1, .inl s_q1_grants_cells.2)), (a_t_grants_cells, .inl (cI, x8.2.1, .inl x8.2.2)), (a_t_routes, .inr (1, [.int x19.1.1, .int x19.1.2.1, .ref a_t_routes_cells, .int x19.1.2.2])), (a_q1_routes, .inr (1, [.int s_q1_routes.1, .int s_q1_routes.2.1, .ref a_q1_routes_cells, .int s_q1_routes.2.2])), (a_q1_routes_cells, .inl (cI, s_q1_routes_cells.1, .inl s_q1_routes_cells.2)), (a_t_routes_cells, .inl (cI, x19.2.1, .inl x19.2.2))] H := hP
  have hD : va_D A [(a_t, .inr (0, [.ref a_t_papers, .ref a_t_grants, .ref a_t_routes, .int s_q1.1, .int s_t.2.1, .int s_t.2.2])), (a_q1, .inr (0, [.ref a_q1_papers, .ref a_q1_grants, .ref a_q1_routes, .int s_q1.1, .int s_q1.2.1, .int s_q1.2.2])), (a_t_grants, .inr (1, [.int x8.1.1, .int x8.1.2.1, .ref a_t_grants_cells, .int x8.1.2.2])), (a_q1_grants, .inr (1, [.int s_q1_grants.1, .int s_q1_grants.2.1, .ref a_q1_grants_cells, .int s_q1_grants.2.2])), (a_q1_grants_cells, .inl (cI, s_q1_grants_cells.1, .inl s_q1_grants_cells.2)), (a_t_grants_cells, .inl (cI, x8.2.1, .inl x8.2.2)), (a_t_routes, .inr (1, [.int x19.1.1, .int x19.1.2.1, .ref a_t_routes_cells, .int x19.1.2.2])), (a_q1_routes, .inr (1, [.int s_q1_routes.1, .int s_q1_routes.2.1, .ref a_q1_routes_cells, .int s_q1_routes.2.2])), (a_q1_routes_cells, .inl (cI, s_q1_routes_cells.1, .inl s_q1_routes_cells.2)), (a_t_routes_cells, .inl (cI, x19.2.1, .inl x19.2.2))] := hD
  refine lv_aload_n hx hb dX0_copyFrom_30 rfl (lv_at hl 0 rfl) ?_
  refine lv_aload_n hx hb dX0_copyFrom_31 rfl (lv_at hl 1 rfl) ?_
  refine va_get (D := (dC, dI)) (ci := 0) (v := .int s_q1.2.1) (C := RX0) (T := TX0) (N := 6) hx hb hU inlX0 hown hE.1 hP 1 rfl rfl 4 (by decide) (hU _ u_11_3) (fun _ h9 => h9) rfl dX0_copyFrom_32 ?_
  refine va_put (D := (dC, dI)) (ci := 0) (v := .int s_q1.2.1) (ty := .int) (C := RX0) (T := TX0) (N := 6) hx hb hU inlX0 tyX0 tyX0_ok nmX0 hown hE.1 hP hD hS 0 rfl rfl 4 (by decide) (hU _ u_11_3) (fun _ h9 => h9) rfl (tyX0_ok 4 (by decide)) rfl rfl (Nat.le_of_ble_eq_true rfl) dX0_copyFrom_35 (fun H locs hP hD hS => ?_)
  have hP : va_P (dC, dI) vwCl [(a_t, .inr (0, [.ref a_t_papers, .ref a_t_grants, .ref a_t_routes, .int s_q1.1, .int s_q1.2.1, .int s_t.2.2])), (a_q1, .inr (0, [.ref a_q1_papers, .ref a_q1_grants, .ref a_q1_routes, .int s_q1.1, .int s_q1.2.1, .int s_q1.2.2])), (a_t_grants, .inr (1, [.int x8.1.1, .int x8.1.2.1, .ref a_t_grants_cells, .int x8.1.2.2])), (a_q1_grants, .inr (1, [.int s_q1_grants.1, .int s_q1_grants.2.1, .ref a_q1_grants_cells, .int s_q1_grants.2.2])), (a_q1_grants_cells, .inl (cI, s_q1_grants_cells.1, .inl s_q1_grants_cells.2)), (a_t_grants_cells, .inl (cI, x8.2.1, .inl x8.2.2)), (a_t_routes, .inr (1, [.int x19.1.1, .int x19.1.2.1, .ref a_t_routes_cells, .int x19.1.2.2])), (a_q1_routes, .inr (1, [.int s_q1_routes.1, .int s_q1_routes.2.1, .ref a_q1_routes_cells, .int s_q1_routes.2.2])), (a_q1_routes_cells, .inl (cI, s_q1_routes_cells.1, .inl s_q1_routes_cells.2)), (a_t_routes_cells, .inl (cI, x19.2.1, .inl x19.2.2))] H := hP
  have hD : va_D A [(a_t, .inr (0, [.ref a_t_papers, .ref a_t_grants, .ref a_t_routes, .int s_q1.1, .int s_q1.2.1, .int s_t.2.2])), (a_q1, .inr (0, [.ref a_q1_papers, .ref a_q1_grants, .ref a_q1_routes, .int s_q1.1, .int s_q1.2.1, .int s_q1.2.2])), (a_t_grants, .inr (1, [.int x8.1.1, .int x8.1.2.1, .ref a_t_grants_cells, .int x8.1.2.2])), (a_q1_grants, .inr (1, [.int s_q1_grants.1, .int s_q1_grants.2.1, .ref a_q1_grants_cells, .int s_q1_grants.2.2])), (a_q1_grants_cells, .inl (cI, s_q1_grants_cells.1, .inl s_q1_grants_cells.2)), (a_t_grants_cells, .inl (cI, x8.2.1, .inl x8.2.2)), (a_t_routes, .inr (1, [.int x19.1.1, .int x19.1.2.1, .ref a_t_routes_cells, .int x19.1.2.2])), (a_q1_routes, .inr (1, [.int s_q1_routes.1, .int s_q1_routes.2.1, .ref a_q1_routes_cells, .int s_q1_routes.2.2])), (a_q1_routes_cells, .inl (cI, s_q1_routes_cells.1, .inl s_q1_routes_cells.2)), (a_t_routes_cells, .inl (cI, x19.2.1, .inl x19.2.2))] := hD
  refine lv_aload_n hx hb dX0_copyFrom_38 rfl (lv_at hl 0 rfl) ?_
  refine lv_aload_n hx hb dX0_copyFrom_39 rfl (lv_at hl 1 rfl) ?_
  refine va_get (D := (dC, dI)) (ci := 0) (v := .int s_q1.2.2) (C := RX0) (T := TX0) (N := 6) hx hb hU inlX0 hown hE.1 hP 1 rfl rfl 5 (by decide) (hU _ u_11_4) (fun _ h9 => h9) rfl dX0_copyFrom_40 ?_
  refine va_put (D := (dC, dI)) (ci := 0) (v := .int s_q1.2.2) (ty := .int) (C := RX0) (T := TX0) (N := 6) hx hb hU inlX0 tyX0 tyX0_ok nmX0 hown hE.1 hP hD hS 0 rfl rfl 5 (by decide) (hU _ u_11_4) (fun _ h9 => h9) rfl (tyX0_ok 5 (by decide)) rfl rfl (Nat.le_of_ble_eq_true rfl) dX0_copyFrom_43 (fun H locs hP hD hS => ?_)
  have hP : va_P (dC, dI) vwCl [(a_t, .inr (0, [.ref a_t_papers, .ref a_t_grants, .ref a_t_routes, .int s_q1.1, .int s_q1.2.1, .int s_q1.2.2])), (a_q1, .inr (0, [.ref a_q1_papers, .ref a_q1_grants, .ref a_q1_routes, .int s_q1.1, .int s_q1.2.1, .int s_q1.2.2])), (a_t_grants, .inr (1, [.int x8.1.1, .int x8.1.2.1, .ref a_t_grants_cells, .int x8.1.2.2])), (a_q1_grants, .inr (1, [.int s_q1_grants.1, .int s_q1_grants.2.1, .ref a_q1_grants_cells, .int s_q1_grants.2.2])), (a_q1_grants_cells, .inl (cI, s_q1_grants_cells.1, .inl s_q1_grants_cells.2)), (a_t_grants_cells, .inl (cI, x8.2.1, .inl x8.2.2)), (a_t_routes, .inr (1, [.int x19.1.1, .int x19.1.2.1, .ref a_t_routes_cells, .int x19.1.2.2])), (a_q1_routes, .inr (1, [.int s_q1_routes.1, .int s_q1_routes.2.1, .ref a_q1_routes_cells, .int s_q1_routes.2.2])), (a_q1_routes_cells, .inl (cI, s_q1_routes_cells.1, .inl s_q1_routes_cells.2)), (a_t_routes_cells, .inl (cI, x19.2.1, .inl x19.2.2))] H := hP
  have hD : va_D A [(a_t, .inr (0, [.ref a_t_papers, .ref a_t_grants, .ref a_t_routes, .int s_q1.1, .int s_q1.2.1, .int s_q1.2.2])), (a_q1, .inr (0, [.ref a_q1_papers, .ref a_q1_grants, .ref a_q1_routes, .int s_q1.1, .int s_q1.2.1, .int s_q1.2.2])), (a_t_grants, .inr (1, [.int x8.1.1, .int x8.1.2.1, .ref a_t_grants_cells, .int x8.1.2.2])), (a_q1_grants, .inr (1, [.int s_q1_grants.1, .int s_q1_grants.2.1, .ref a_q1_grants_cells, .int s_q1_grants.2.2])), (a_q1_grants_cells, .inl (cI, s_q1_grants_cells.1, .inl s_q1_grants_cells.2)), (a_t_grants_cells, .inl (cI, x8.2.1, .inl x8.2.2)), (a_t_routes, .inr (1, [.int x19.1.1, .int x19.1.2.1, .ref a_t_routes_cells, .int x19.1.2.2])), (a_q1_routes, .inr (1, [.int s_q1_routes.1, .int s_q1_routes.2.1, .ref a_q1_routes_cells, .int s_q1_routes.2.2])), (a_q1_routes_cells, .inl (cI, s_q1_routes_cells.1, .inl s_q1_routes_cells.2)), (a_t_routes_cells, .inl (cI, x19.2.1, .inl x19.2.2))] := hD
  cases hM
  exact rt _ _ _ _ hP hS dX0_copyFrom_46 rfl
noncomputable def mX0_grantsThatMakeRight_b5 (s_t_grants : Int32 × Int32 × Int32) (s_t_routes : Int32 × Int32 × Int32) (s_t_routes_cells : Ar) (s_t_grants_cells : Ar) (v1 : Int32) (v2 : Int32) : Nat → Int32 → Int32 → Option (Int32)
  | 0, _, _ => none
  | n + 1, v3, v4 => (if s_t_grants.2.2 ≤ v4 then some (v3) else bnd (v2 &&& ((1 : Int32) <<< (v4 &&& 31))) (fun z23 => (mX0_routesThatAre s_t_routes s_t_routes_cells s_t_grants s_t_grants_cells (2 : Int32) z23).bind (fun x29 => (mX3_bit x29 v1).bind (fun x33 => (if x33 = (1 : Int32) then mX0_grantsThatMakeRight_b5 s_t_grants s_t_routes s_t_routes_cells s_t_grants_cells v1 v2 n (v3 ||| z23) (v4 + (1 : Int32)) else mX0_grantsThatMakeRight_b5 s_t_grants s_t_routes s_t_routes_cells s_t_grants_cells v1 v2 n v3 (v4 + (1 : Int32)))))))
noncomputable def mX0_grantsThatMakeRight (s_t_grants : Int32 × Int32 × Int32) (s_t_routes : Int32 × Int32 × Int32) (s_t_routes_cells : Ar) (s_t_grants_cells : Ar) (v1 : Int32) (v2 : Int32) : Option (Int32) := mX0_grantsThatMakeRight_b5 s_t_grants s_t_routes s_t_routes_cells s_t_grants_cells v1 v2 FU (0 : Int32) (0 : Int32)
set_option maxHeartbeats 4000000 in
set_option maxRecDepth 100000 in
theorem okX0_grantsThatMakeRight {l : Launch} {dC : Nat → ClassId} {dI : Nat → Nat → Nat} {cI cC cZ : ClassId} (a_t a_t_papers a_t_grants a_t_routes a_t_grants_cells a_t_routes_cells : Nat) (s_t : Int32 × Int32 × Int32) (s_t_grants : Int32 × Int32 × Int32) (s_t_routes : Int32 × Int32 × Int32) (s_t_routes_cells : Ar) (s_t_grants_cells : Ar) (v1 : Int32) (v2 : Int32) (res : Int32) (hM : mX0_grantsThatMakeRight s_t_grants s_t_routes s_t_routes_cells s_t_grants_cells v1 v2 = some res) : Rd l yX0_grantsThatMakeRight cX0_grantsThatMakeRight 6 (some .int) 3 73 (dC, dI) cI cC cZ [(a_t, .inr (0, [.ref a_t_papers, .ref a_t_grants, .ref a_t_routes, .int s_t.1, .int s_t.2.1, .int s_t.2.2])), (a_t_grants, .inr (1, [.int s_t_grants.1, .int s_t_grants.2.1, .ref a_t_grants_cells, .int s_t_grants.2.2])), (a_t_routes, .inr (1, [.int s_t_routes.1, .int s_t_routes.2.1, .ref a_t_routes_cells, .int s_t_routes.2.2])), (a_t_routes_cells, .inl (cI, s_t_routes_cells.1, .inl s_t_routes_cells.2)), (a_t_grants_cells, .inl (cI, s_t_grants_cells.1, .inl s_t_grants_cells.2))] [.ref a_t, .int v1, .int v2] (some (.int res)) := by
  refine Rd.ofI (by decide) (Nat.le_of_ble_eq_true rfl) [(0, .ref a_t), (1, .int v1), (2, .int v2)] rfl ?_
  intro p e s m args below meth c ls Q hx hb hml hown hU hE hP rt hl
  have hown : s.vm.findClass RX0 = some m.cls := hown
  unfold mX0_grantsThatMakeRight at hM
  refine lv_iconst (v := (0 : Int32)) hx hb dX0_grantsThatMakeRight_0 (by decide) ?_
  refine lv_istore_n (lv' := [(3, .int (0 : Int32)), (0, .ref a_t), (1, .int v1), (2, .int v2)]) hx hb dX0_grantsThatMakeRight_1 rfl hl (by decide) rfl (fun ls hl => ?_)
  refine lv_iconst (v := (0 : Int32)) hx hb dX0_grantsThatMakeRight_2 (by decide) ?_
  refine lv_istore (lv' := [(4, .int (0 : Int32)), (3, .int (0 : Int32)), (0, .ref a_t), (1, .int v1), (2, .int v2)]) hx hb dX0_grantsThatMakeRight_3 hl (by decide) rfl (fun ls hl => ?_)
  have w_5 : ∀ (n : Nat) (v3_5 : Int32) (v4_5 : Int32), mX0_grantsThatMakeRight_b5 s_t_grants s_t_routes s_t_routes_cells s_t_grants_cells v1 v2 n v3_5 v4_5 = some res → ∀ (ls : Array Slot), lv_has ls 6 [(0, .ref a_t), (1, .int v1), (2, .int v2), (3, .int v3_5), (4, .int v4_5)] → W p l e (RM 3 73) s m args below meth c s.heap [] 0 0 Q (F0 m 5 ls []) := by
    intro n
    induction n with
    | zero =>
      intro v3_5 v4_5 hM
      rw [mX0_grantsThatMakeRight_b5] at hM
      cases hM
    | succ n_5 ih_5 =>
      intro v3_5 v4_5 hM ls hl
      rw [mX0_grantsThatMakeRight_b5] at hM
      refine lv_iload hx hb dX0_grantsThatMakeRight_5 (lv_at hl 4 rfl) ?_
      refine lv_aload_n hx hb dX0_grantsThatMakeRight_7 rfl (lv_at hl 0 rfl) ?_
      refine va_get (D := (dC, dI)) (ci := 0) (v := .ref a_t_grants) (C := RX0) (T := TX0) (N := 6) hx hb hU inlX0 hown hE.1 hP 0 rfl rfl 1 (by decide) (hU _ u_3_0) (fun _ h9 => h9) rfl dX0_grantsThatMakeRight_8 ?_
      refine va_get (D := (dC, dI)) (ci := 1) (v := .int s_t_grants.2.2) (C := RX1) (T := TX1) (N := 4) hx hb hU inlX1 hown hE.1 hP 1 rfl rfl 3 (by decide) (hU _ u_12_3) (fun _ h9 => h9) rfl dX0_grantsThatMakeRight_11 ?_
      refine lv_icmp_ge (tgt := 51) hx hb dX0_grantsThatMakeRight_14 (by decide) (fun c14 => ?_) (fun c14 => ?_)
      · have hM := ite_t c14 hM
        refine lv_iload_n hx hb dX0_grantsThatMakeRight_51 rfl (lv_at hl 3 rfl) ?_
        cases hM
        exact rt _ _ _ dX0_grantsThatMakeRight_52 rfl
      · have hM := ite_f c14 hM
        refine lv_iload_n hx hb dX0_grantsThatMakeRight_17 rfl (lv_at hl 2 rfl) ?_
        refine lv_iconst (v := (1 : Int32)) hx hb dX0_grantsThatMakeRight_18 (by decide) ?_
        refine lv_iload hx hb dX0_grantsThatMakeRight_19 (lv_at hl 4 rfl) ?_
        refine lv_ishl hx hb dX0_grantsThatMakeRight_21 ?_
        refine lv_iand hx hb dX0_grantsThatMakeRight_22 ?_
        obtain ⟨z23, ez23, hM⟩ := bnd_e hM
        rw [← ez23]
        refine lv_istore (lv' := [(5, .int z23), (0, .ref a_t), (1, .int v1), (2, .int v2), (3, .int v3_5), (4, .int v4_5)]) hx hb dX0_grantsThatMakeRight_23 hl (by decide) rfl (fun ls hl => ?_)
        refine lv_aload_n hx hb dX0_grantsThatMakeRight_25 rfl (lv_at hl 1 rfl) ?_
        refine lv_iconst (v := (2 : Int32)) hx hb dX0_grantsThatMakeRight_26 (by decide) ?_
        refine lv_iload hx hb dX0_grantsThatMakeRight_27 (lv_at hl 0 rfl) ?_
        obtain ⟨x29, h29, hM⟩ := bind_e hM
        refine rdV (As := [.int (2 : Int32), .int z23]) (rest := []) (st2 := [.int x29]) ⟨hx, hb, hml, hown, hU⟩ hE (okX0_routesThatAre a_t a_t_papers a_t_grants a_t_routes a_t_routes_cells a_t_grants_cells s_t s_t_routes s_t_routes_cells s_t_grants s_t_grants_cells (2 : Int32) z23 x29 h29) lk_X0_65 (hP.sub [0, 2, 3, 1, 4] rfl) rfl rfl rfl hl.1 rfl (Nat.le_of_ble_eq_true rfl) ⟨Nat.le_of_ble_eq_true rfl, Nat.le_of_ble_eq_true rfl⟩ dX0_grantsThatMakeRight_29 ⟨Nat.le_refl _, Nat.le_refl _⟩ rfl ?_
        refine lv_iload_n hx hb dX0_grantsThatMakeRight_32 rfl (lv_at hl 2 rfl) ?_
        obtain ⟨x33, h33, hM⟩ := bind_e hM
        refine rdN (As := [.int x29, .int v1]) (rest := []) (st2 := [.int x33]) ⟨hx, hb, hml, hown, hU⟩ hE hE.2.2.2.2.1 (okX3_bit x29 v1 x33 h33) kn_X3_bit (hP.sub [] rfl) rfl hl.1 rfl (Nat.le_of_ble_eq_true rfl) ⟨Nat.le_of_ble_eq_true rfl, Nat.le_of_ble_eq_true rfl⟩ dX0_grantsThatMakeRight_33 ⟨Nat.le_refl _, Nat.le_refl _⟩ rfl ?_
        refine lv_iconst (v := (1 : Int32)) hx hb dX0_grantsThatMakeRight_36 (by decide) ?_
        refine lv_icmp_ne (tgt := 45) hx hb dX0_grantsThatMakeRight_37 (by decide) (fun c37 => ?_) (fun c37 => ?_)
        · have hM := ite_f c37 hM
          refine lv_iinc (v := (v4_5 + (1 : Int32))) (lv' := [(4, .int (v4_5 + (1 : Int32))), (5, .int z23), (0, .ref a_t), (1, .int v1), (2, .int v2), (3, .int v3_5)]) hx hb dX0_grantsThatMakeRight_45 hl (k := 5) rfl rfl (by decide) rfl (fun ls hl => ?_)
          refine lv_goto (tgt := 5) hx hb dX0_grantsThatMakeRight_48 (by decide) ?_
          exact ih_5 v3_5 (v4_5 + (1 : Int32)) hM ls (lv_sub hl [2, 3, 4, 5, 0] rfl)
        · have hM := ite_t c37 hM
          refine lv_iload_n hx hb dX0_grantsThatMakeRight_40 rfl (lv_at hl 4 rfl) ?_
          refine lv_iload hx hb dX0_grantsThatMakeRight_41 (lv_at hl 0 rfl) ?_
          refine lv_ior hx hb dX0_grantsThatMakeRight_43 ?_
          refine lv_istore_n (lv' := [(3, .int (v3_5 ||| z23)), (5, .int z23), (0, .ref a_t), (1, .int v1), (2, .int v2), (4, .int v4_5)]) hx hb dX0_grantsThatMakeRight_44 rfl hl (by decide) rfl (fun ls hl => ?_)
          refine lv_iinc (v := (v4_5 + (1 : Int32))) (lv' := [(4, .int (v4_5 + (1 : Int32))), (3, .int (v3_5 ||| z23)), (5, .int z23), (0, .ref a_t), (1, .int v1), (2, .int v2)]) hx hb dX0_grantsThatMakeRight_45 hl (k := 5) rfl rfl (by decide) rfl (fun ls hl => ?_)
          refine lv_goto (tgt := 5) hx hb dX0_grantsThatMakeRight_48 (by decide) ?_
          exact ih_5 (v3_5 ||| z23) (v4_5 + (1 : Int32)) hM ls (lv_sub hl [3, 4, 5, 1, 0] rfl)
  exact w_5 FU (0 : Int32) (0 : Int32) hM ls (lv_sub hl [2, 3, 4, 1, 0] rfl)
noncomputable def mX0_makerOf_b14 (s_t : Int32 × Int32 × Int32) (s_t_papers : Int32 × Int32 × Int32) (s_t_papers_cells : Ar) (s_t_routes : Int32 × Int32 × Int32) (s_t_routes_cells : Ar) (v1 : Int32) (v2 : Int32) : Nat → Int32 → Int32 → Option (Int32)
  | 0, _, _ => none
  | n + 1, v3, v4 => (if s_t_papers.2.2 ≤ v4 then some (v3) else (mX3_bit v2 v4).bind (fun x29 => (if x29 = (1 : Int32) then (mX1_at s_t_routes s_t_routes_cells v1 (2 : Int32)).bind (fun x42 => (mX1_at s_t_papers s_t_papers_cells v4 (2 : Int32)).bind (fun x52 => (mX3_isWithin x42 x52).bind (fun x55 => (if x55 = true then (mX1_at s_t_papers s_t_papers_cells v4 (1 : Int32)).bind (fun x68 => (mX1_at s_t_papers s_t_papers_cells v3 (1 : Int32)).bind (fun x77 => (if x68 ≤ x77 then mX0_makerOf_b14 s_t s_t_papers s_t_papers_cells s_t_routes s_t_routes_cells v1 v2 n v3 (v4 + (1 : Int32)) else mX0_makerOf_b14 s_t s_t_papers s_t_papers_cells s_t_routes s_t_routes_cells v1 v2 n v4 (v4 + (1 : Int32))))) else mX0_makerOf_b14 s_t s_t_papers s_t_papers_cells s_t_routes s_t_routes_cells v1 v2 n v3 (v4 + (1 : Int32)))))) else mX0_makerOf_b14 s_t s_t_papers s_t_papers_cells s_t_routes s_t_routes_cells v1 v2 n v3 (v4 + (1 : Int32)))))
noncomputable def mX0_makerOf (s_t : Int32 × Int32 × Int32) (s_t_papers : Int32 × Int32 × Int32) (s_t_papers_cells : Ar) (s_t_routes : Int32 × Int32 × Int32) (s_t_routes_cells : Ar) (v1 : Int32) : Option (Int32) := (mX0_standing s_t s_t_papers s_t_papers_cells s_t.1).bind (fun x5 => mX0_makerOf_b14 s_t s_t_papers s_t_papers_cells s_t_routes s_t_routes_cells v1 x5 FU (0 : Int32) (1 : Int32))
set_option maxHeartbeats 4000000 in
set_option maxRecDepth 100000 in
theorem okX0_makerOf {l : Launch} {dC : Nat → ClassId} {dI : Nat → Nat → Nat} {cI cC cZ : ClassId} (a_t a_t_papers a_t_grants a_t_routes a_t_papers_cells a_t_routes_cells : Nat) (s_t : Int32 × Int32 × Int32) (s_t_papers : Int32 × Int32 × Int32) (s_t_papers_cells : Ar) (s_t_routes : Int32 × Int32 × Int32) (s_t_routes_cells : Ar) (v1 : Int32) (res : Int32) (hM : mX0_makerOf s_t s_t_papers s_t_papers_cells s_t_routes s_t_routes_cells v1 = some res) : Rd l yX0_makerOf cX0_makerOf 5 (some .int) 2 46 (dC, dI) cI cC cZ [(a_t, .inr (0, [.ref a_t_papers, .ref a_t_grants, .ref a_t_routes, .int s_t.1, .int s_t.2.1, .int s_t.2.2])), (a_t_papers, .inr (1, [.int s_t_papers.1, .int s_t_papers.2.1, .ref a_t_papers_cells, .int s_t_papers.2.2])), (a_t_papers_cells, .inl (cI, s_t_papers_cells.1, .inl s_t_papers_cells.2)), (a_t_routes, .inr (1, [.int s_t_routes.1, .int s_t_routes.2.1, .ref a_t_routes_cells, .int s_t_routes.2.2])), (a_t_routes_cells, .inl (cI, s_t_routes_cells.1, .inl s_t_routes_cells.2))] [.ref a_t, .int v1] (some (.int res)) := by
  refine Rd.ofI (by decide) (Nat.le_of_ble_eq_true rfl) [(0, .ref a_t), (1, .int v1)] rfl ?_
  intro p e s m args below meth c ls Q hx hb hml hown hU hE hP rt hl
  have hown : s.vm.findClass RX0 = some m.cls := hown
  unfold mX0_makerOf at hM
  refine lv_aload_n hx hb dX0_makerOf_0 rfl (lv_at hl 0 rfl) ?_
  refine lv_aload_n hx hb dX0_makerOf_1 rfl (lv_at hl 0 rfl) ?_
  refine va_get (D := (dC, dI)) (ci := 0) (v := .int s_t.1) (C := RX0) (T := TX0) (N := 6) hx hb hU inlX0 hown hE.1 hP 0 rfl rfl 3 (by decide) (hU _ u_11_2) (fun _ h9 => h9) rfl dX0_makerOf_2 ?_
  obtain ⟨x5, h5, hM⟩ := bind_e hM
  refine rdV (As := [.int s_t.1]) (rest := []) (st2 := [.int x5]) ⟨hx, hb, hml, hown, hU⟩ hE (okX0_standing a_t a_t_papers a_t_grants a_t_routes a_t_papers_cells s_t s_t_papers s_t_papers_cells s_t.1 x5 h5) lk_X0_54 (hP.sub [0, 1, 2] rfl) rfl rfl rfl hl.1 rfl (Nat.le_of_ble_eq_true rfl) ⟨Nat.le_of_ble_eq_true rfl, Nat.le_of_ble_eq_true rfl⟩ dX0_makerOf_5 ⟨Nat.le_refl _, Nat.le_refl _⟩ rfl ?_
  refine lv_istore_n (lv' := [(2, .int x5), (0, .ref a_t), (1, .int v1)]) hx hb dX0_makerOf_8 rfl hl (by decide) rfl (fun ls hl => ?_)
  refine lv_iconst (v := (0 : Int32)) hx hb dX0_makerOf_9 (by decide) ?_
  refine lv_istore_n (lv' := [(3, .int (0 : Int32)), (2, .int x5), (0, .ref a_t), (1, .int v1)]) hx hb dX0_makerOf_10 rfl hl (by decide) rfl (fun ls hl => ?_)
  refine lv_iconst (v := (1 : Int32)) hx hb dX0_makerOf_11 (by decide) ?_
  refine lv_istore (lv' := [(4, .int (1 : Int32)), (3, .int (0 : Int32)), (2, .int x5), (0, .ref a_t), (1, .int v1)]) hx hb dX0_makerOf_12 hl (by decide) rfl (fun ls hl => ?_)
  have w_14 : ∀ (n : Nat) (v3_14 : Int32) (v4_14 : Int32), mX0_makerOf_b14 s_t s_t_papers s_t_papers_cells s_t_routes s_t_routes_cells v1 x5 n v3_14 v4_14 = some res → ∀ (ls : Array Slot), lv_has ls 5 [(0, .ref a_t), (1, .int v1), (2, .int x5), (3, .int v3_14), (4, .int v4_14)] → W p l e (RM 2 46) s m args below meth c s.heap [] 0 0 Q (F0 m 14 ls []) := by
    intro n
    induction n with
    | zero =>
      intro v3_14 v4_14 hM
      rw [mX0_makerOf_b14] at hM
      cases hM
    | succ n_14 ih_14 =>
      intro v3_14 v4_14 hM ls hl
      rw [mX0_makerOf_b14] at hM
      refine lv_iload hx hb dX0_makerOf_14 (lv_at hl 4 rfl) ?_
      refine lv_aload_n hx hb dX0_makerOf_16 rfl (lv_at hl 0 rfl) ?_
      refine va_get (D := (dC, dI)) (ci := 0) (v := .ref a_t_papers) (C := RX0) (T := TX0) (N := 6) hx hb hU inlX0 hown hE.1 hP 0 rfl rfl 0 (by decide) (hU _ u_3_2) (fun _ h9 => h9) rfl dX0_makerOf_17 ?_
      refine va_get (D := (dC, dI)) (ci := 1) (v := .int s_t_papers.2.2) (C := RX1) (T := TX1) (N := 4) hx hb hU inlX1 hown hE.1 hP 1 rfl rfl 3 (by decide) (hU _ u_12_3) (fun _ h9 => h9) rfl dX0_makerOf_20 ?_
      refine lv_icmp_ge (tgt := 92) hx hb dX0_makerOf_23 (by decide) (fun c23 => ?_) (fun c23 => ?_)
      · have hM := ite_t c23 hM
        refine lv_iload_n hx hb dX0_makerOf_92 rfl (lv_at hl 3 rfl) ?_
        cases hM
        exact rt _ _ _ dX0_makerOf_93 rfl
      · have hM := ite_f c23 hM
        refine lv_iload_n hx hb dX0_makerOf_26 rfl (lv_at hl 2 rfl) ?_
        refine lv_iload hx hb dX0_makerOf_27 (lv_at hl 4 rfl) ?_
        obtain ⟨x29, h29, hM⟩ := bind_e hM
        refine rdN (As := [.int x5, .int v4_14]) (rest := []) (st2 := [.int x29]) ⟨hx, hb, hml, hown, hU⟩ hE hE.2.2.2.2.1 (okX3_bit x5 v4_14 x29 h29) kn_X3_bit (hP.sub [] rfl) rfl hl.1 rfl (Nat.le_of_ble_eq_true rfl) ⟨Nat.le_of_ble_eq_true rfl, Nat.le_of_ble_eq_true rfl⟩ dX0_makerOf_29 ⟨Nat.le_refl _, Nat.le_refl _⟩ rfl ?_
        refine lv_iconst (v := (1 : Int32)) hx hb dX0_makerOf_32 (by decide) ?_
        refine lv_icmp_ne (tgt := 86) hx hb dX0_makerOf_33 (by decide) (fun c33 => ?_) (fun c33 => ?_)
        · have hM := ite_f c33 hM
          refine lv_iinc (v := (v4_14 + (1 : Int32))) (lv' := [(4, .int (v4_14 + (1 : Int32))), (0, .ref a_t), (1, .int v1), (2, .int x5), (3, .int v3_14)]) hx hb dX0_makerOf_86 hl (k := 4) rfl rfl (by decide) rfl (fun ls hl => ?_)
          refine lv_goto (tgt := 14) hx hb dX0_makerOf_89 (by decide) ?_
          exact ih_14 v3_14 (v4_14 + (1 : Int32)) hM ls (lv_sub hl [1, 2, 3, 4, 0] rfl)
        · have hM := ite_t c33 hM
          refine lv_aload_n hx hb dX0_makerOf_36 rfl (lv_at hl 0 rfl) ?_
          refine va_get (D := (dC, dI)) (ci := 0) (v := .ref a_t_routes) (C := RX0) (T := TX0) (N := 6) hx hb hU inlX0 hown hE.1 hP 0 rfl rfl 2 (by decide) (hU _ u_3_1) (fun _ h9 => h9) rfl dX0_makerOf_37 ?_
          refine lv_iload_n hx hb dX0_makerOf_40 rfl (lv_at hl 1 rfl) ?_
          refine lv_iconst (v := (2 : Int32)) hx hb dX0_makerOf_41 (by decide) ?_
          obtain ⟨x42, h42, hM⟩ := bind_e hM
          refine rdV (As := [.int v1, .int (2 : Int32)]) (rest := []) (st2 := [.int x42]) ⟨hx, hb, hml, hown, hU⟩ hE (okX1_at a_t_routes a_t_routes_cells s_t_routes s_t_routes_cells v1 (2 : Int32) x42 h42) lk_X0_43 (hP.sub [3, 4] rfl) rfl rfl rfl hl.1 rfl (Nat.le_of_ble_eq_true rfl) ⟨Nat.le_of_ble_eq_true rfl, Nat.le_of_ble_eq_true rfl⟩ dX0_makerOf_42 ⟨Nat.le_refl _, Nat.le_refl _⟩ rfl ?_
          refine lv_aload_n hx hb dX0_makerOf_45 rfl (lv_at hl 0 rfl) ?_
          refine va_get (D := (dC, dI)) (ci := 0) (v := .ref a_t_papers) (C := RX0) (T := TX0) (N := 6) hx hb hU inlX0 hown hE.1 hP 0 rfl rfl 0 (by decide) (hU _ u_3_2) (fun _ h9 => h9) rfl dX0_makerOf_46 ?_
          refine lv_iload hx hb dX0_makerOf_49 (lv_at hl 4 rfl) ?_
          refine lv_iconst (v := (2 : Int32)) hx hb dX0_makerOf_51 (by decide) ?_
          obtain ⟨x52, h52, hM⟩ := bind_e hM
          refine rdV (As := [.int v4_14, .int (2 : Int32)]) (rest := [.int x42]) (st2 := [.int x52, .int x42]) ⟨hx, hb, hml, hown, hU⟩ hE (okX1_at a_t_papers a_t_papers_cells s_t_papers s_t_papers_cells v4_14 (2 : Int32) x52 h52) lk_X0_43 (hP.sub [1, 2] rfl) rfl rfl rfl hl.1 rfl (Nat.le_of_ble_eq_true rfl) ⟨Nat.le_of_ble_eq_true rfl, Nat.le_of_ble_eq_true rfl⟩ dX0_makerOf_52 ⟨Nat.le_refl _, Nat.le_refl _⟩ rfl ?_
          obtain ⟨x55, h55, hM⟩ := bind_e hM
          refine rdN (As := [.int x42, .int x52]) (rest := []) (st2 := [.int (b2i x55)]) ⟨hx, hb, hml, hown, hU⟩ hE hE.2.2.2.2.2.1 (okX3_isWithin x42 x52 x55 h55) kn_X3_isWithin (hP.sub [] rfl) rfl hl.1 rfl (Nat.le_of_ble_eq_true rfl) ⟨Nat.le_of_ble_eq_true rfl, Nat.le_of_ble_eq_true rfl⟩ dX0_makerOf_55 ⟨Nat.le_refl _, Nat.le_refl _⟩ rfl ?_
          refine lv_if_eq (tgt := 86) hx hb dX0_makerOf_58 (by decide) (fun c58 => ?_) (fun c58 => ?_)
          · have hM := ite_f (b2i_eq0 c58) hM
            refine lv_iinc (v := (v4_14 + (1 : Int32))) (lv' := [(4, .int (v4_14 + (1 : Int32))), (0, .ref a_t), (1, .int v1), (2, .int x5), (3, .int v3_14)]) hx hb dX0_makerOf_86 hl (k := 4) rfl rfl (by decide) rfl (fun ls hl => ?_)
            refine lv_goto (tgt := 14) hx hb dX0_makerOf_89 (by decide) ?_
            exact ih_14 v3_14 (v4_14 + (1 : Int32)) hM ls (lv_sub hl [1, 2, 3, 4, 0] rfl)
          · have hM := ite_t (b2i_ne0 c58) hM
            refine lv_aload_n hx hb dX0_makerOf_61 rfl (lv_at hl 0 rfl) ?_
            refine va_get (D := (dC, dI)) (ci := 0) (v := .ref a_t_papers) (C := RX0) (T := TX0) (N := 6) hx hb hU inlX0 hown hE.1 hP 0 rfl rfl 0 (by decide) (hU _ u_3_2) (fun _ h9 => h9) rfl dX0_makerOf_62 ?_
            refine lv_iload hx hb dX0_makerOf_65 (lv_at hl 4 rfl) ?_
            refine lv_iconst (v := (1 : Int32)) hx hb dX0_makerOf_67 (by decide) ?_
            obtain ⟨x68, h68, hM⟩ := bind_e hM
            refine rdV (As := [.int v4_14, .int (1 : Int32)]) (rest := []) (st2 := [.int x68]) ⟨hx, hb, hml, hown, hU⟩ hE (okX1_at a_t_papers a_t_papers_cells s_t_papers s_t_papers_cells v4_14 (1 : Int32) x68 h68) lk_X0_43 (hP.sub [1, 2] rfl) rfl rfl rfl hl.1 rfl (Nat.le_of_ble_eq_true rfl) ⟨Nat.le_of_ble_eq_true rfl, Nat.le_of_ble_eq_true rfl⟩ dX0_makerOf_68 ⟨Nat.le_refl _, Nat.le_refl _⟩ rfl ?_
            refine lv_aload_n hx hb dX0_makerOf_71 rfl (lv_at hl 0 rfl) ?_
            refine va_get (D := (dC, dI)) (ci := 0) (v := .ref a_t_papers) (C := RX0) (T := TX0) (N := 6) hx hb hU inlX0 hown hE.1 hP 0 rfl rfl 0 (by decide) (hU _ u_3_2) (fun _ h9 => h9) rfl dX0_makerOf_72 ?_
            refine lv_iload_n hx hb dX0_makerOf_75 rfl (lv_at hl 3 rfl) ?_
            refine lv_iconst (v := (1 : Int32)) hx hb dX0_makerOf_76 (by decide) ?_
            obtain ⟨x77, h77, hM⟩ := bind_e hM
            refine rdV (As := [.int v3_14, .int (1 : Int32)]) (rest := [.int x68]) (st2 := [.int x77, .int x68]) ⟨hx, hb, hml, hown, hU⟩ hE (okX1_at a_t_papers a_t_papers_cells s_t_papers s_t_papers_cells v3_14 (1 : Int32) x77 h77) lk_X0_43 (hP.sub [1, 2] rfl) rfl rfl rfl hl.1 rfl (Nat.le_of_ble_eq_true rfl) ⟨Nat.le_of_ble_eq_true rfl, Nat.le_of_ble_eq_true rfl⟩ dX0_makerOf_77 ⟨Nat.le_refl _, Nat.le_refl _⟩ rfl ?_
            refine lv_icmp_le (tgt := 86) hx hb dX0_makerOf_80 (by decide) (fun c80 => ?_) (fun c80 => ?_)
            · have hM := ite_t c80 hM
              refine lv_iinc (v := (v4_14 + (1 : Int32))) (lv' := [(4, .int (v4_14 + (1 : Int32))), (0, .ref a_t), (1, .int v1), (2, .int x5), (3, .int v3_14)]) hx hb dX0_makerOf_86 hl (k := 4) rfl rfl (by decide) rfl (fun ls hl => ?_)
              refine lv_goto (tgt := 14) hx hb dX0_makerOf_89 (by decide) ?_
              exact ih_14 v3_14 (v4_14 + (1 : Int32)) hM ls (lv_sub hl [1, 2, 3, 4, 0] rfl)
            · have hM := ite_f c80 hM
              refine lv_iload hx hb dX0_makerOf_83 (lv_at hl 4 rfl) ?_
              refine lv_istore_n (lv' := [(3, .int v4_14), (0, .ref a_t), (1, .int v1), (2, .int x5), (4, .int v4_14)]) hx hb dX0_makerOf_85 rfl hl (by decide) rfl (fun ls hl => ?_)
              refine lv_iinc (v := (v4_14 + (1 : Int32))) (lv' := [(4, .int (v4_14 + (1 : Int32))), (3, .int v4_14), (0, .ref a_t), (1, .int v1), (2, .int x5)]) hx hb dX0_makerOf_86 hl (k := 4) rfl rfl (by decide) rfl (fun ls hl => ?_)
              refine lv_goto (tgt := 14) hx hb dX0_makerOf_89 (by decide) ?_
              exact ih_14 v4_14 (v4_14 + (1 : Int32)) hM ls (lv_sub hl [2, 3, 4, 1, 0] rfl)
  exact w_14 FU (0 : Int32) (1 : Int32) hM ls (lv_sub hl [3, 4, 2, 1, 0] rfl)
