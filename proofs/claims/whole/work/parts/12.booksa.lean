noncomputable def mX3_isWithin (v0 : Int32) (v1 : Int32) : Option (Bool) := (if (v0 &&& (v1 ^^^ (-1 : Int32))) = 0 then some (true) else some (false))
set_option maxHeartbeats 4000000 in
set_option maxRecDepth 100000 in
theorem okX3_isWithin {l : Launch} {dC : Nat → ClassId} {dI : Nat → Nat → Nat} {cI cC cZ : ClassId} (v0 : Int32) (v1 : Int32) (res : Bool) (hM : mX3_isWithin v0 v1 = some res) : Rd l yX3_isWithin cX3_isWithin 2 (some .boolean) 0 0 (dC, dI) cI cC cZ [] [.int v0, .int v1] (some (.int (b2i res))) := by
  refine Rd.ofZ (by decide) (Nat.le_of_ble_eq_true rfl) [(0, .int v0), (1, .int v1)] rfl ?_
  intro p e s m args below meth c ls Q hx hb hml hown hU hE hP rt hl
  have hown : s.vm.findClass RX3 = some m.cls := hown
  unfold mX3_isWithin at hM
  refine lv_iload_n hx hb dX3_isWithin_0 rfl (lv_at hl 0 rfl) ?_
  refine lv_iload_n hx hb dX3_isWithin_1 rfl (lv_at hl 1 rfl) ?_
  refine lv_iconst (v := (-1 : Int32)) hx hb dX3_isWithin_2 (by decide) ?_
  refine lv_ixor hx hb dX3_isWithin_3 ?_
  refine lv_iand hx hb dX3_isWithin_4 ?_
  refine lv_if_ne (tgt := 12) hx hb dX3_isWithin_5 (by decide) (fun c5 => ?_) (fun c5 => ?_)
  · have hM := ite_f c5 hM
    refine lv_iconst (v := (0 : Int32)) hx hb dX3_isWithin_12 (by decide) ?_
    cases hM
    exact rt false _ _ dX3_isWithin_13 rfl
  · have hM := ite_t c5 hM
    refine lv_iconst (v := (1 : Int32)) hx hb dX3_isWithin_8 (by decide) ?_
    refine lv_goto (tgt := 13) hx hb dX3_isWithin_9 (by decide) ?_
    cases hM
    exact rt true _ _ dX3_isWithin_13 rfl
noncomputable def mX0_counting_b4 (s_t : Int32 × Int32 × Int32) (s_t_grants : Int32 × Int32 × Int32) (s_t_grants_cells : Ar) (s_t_papers : Int32 × Int32 × Int32) (s_t_papers_cells : Ar) (v1 : Int32) : Nat → Int32 → Int32 → Option (Int32)
  | 0, _, _ => none
  | n + 1, v2, v3 => (if s_t_grants.2.2 ≤ v3 then some (v2) else (mX1_at s_t_grants s_t_grants_cells v3 (4 : Int32)).bind (fun x21 => (if x21 = (9 : Int32) then bnd (v2 ||| ((1 : Int32) <<< (v3 &&& 31))) (fun z92 => mX0_counting_b4 s_t s_t_grants s_t_grants_cells s_t_papers s_t_papers_cells v1 n z92 (v3 + (1 : Int32))) else (mX3_bit v1 x21).bind (fun x36 => (if x36 = (1 : Int32) then (mX1_at s_t_grants s_t_grants_cells v3 (2 : Int32)).bind (fun x49 => (mX1_at s_t_papers s_t_papers_cells x21 (2 : Int32)).bind (fun x59 => (mX3_isWithin x49 x59).bind (fun x62 => (if x62 = true then (mX1_at s_t_grants s_t_grants_cells v3 (3 : Int32)).bind (fun x78 => (mX3_bit s_t.2.1 x78).bind (fun x81 => (if x81 = 0 then bnd (v2 ||| ((1 : Int32) <<< (v3 &&& 31))) (fun z92 => mX0_counting_b4 s_t s_t_grants s_t_grants_cells s_t_papers s_t_papers_cells v1 n z92 (v3 + (1 : Int32))) else mX0_counting_b4 s_t s_t_grants s_t_grants_cells s_t_papers s_t_papers_cells v1 n v2 (v3 + (1 : Int32))))) else mX0_counting_b4 s_t s_t_grants s_t_grants_cells s_t_papers s_t_papers_cells v1 n v2 (v3 + (1 : Int32)))))) else mX0_counting_b4 s_t s_t_grants s_t_grants_cells s_t_papers s_t_papers_cells v1 n v2 (v3 + (1 : Int32)))))))
noncomputable def mX0_counting (s_t : Int32 × Int32 × Int32) (s_t_grants : Int32 × Int32 × Int32) (s_t_grants_cells : Ar) (s_t_papers : Int32 × Int32 × Int32) (s_t_papers_cells : Ar) (v1 : Int32) : Option (Int32) := mX0_counting_b4 s_t s_t_grants s_t_grants_cells s_t_papers s_t_papers_cells v1 FU (0 : Int32) (0 : Int32)
set_option maxHeartbeats 4000000 in
set_option maxRecDepth 100000 in
theorem okX0_counting {l : Launch} {dC : Nat → ClassId} {dI : Nat → Nat → Nat} {cI cC cZ : ClassId} (a_t a_t_papers a_t_grants a_t_routes a_t_grants_cells a_t_papers_cells : Nat) (s_t : Int32 × Int32 × Int32) (s_t_grants : Int32 × Int32 × Int32) (s_t_grants_cells : Ar) (s_t_papers : Int32 × Int32 × Int32) (s_t_papers_cells : Ar) (v1 : Int32) (res : Int32) (hM : mX0_counting s_t s_t_grants s_t_grants_cells s_t_papers s_t_papers_cells v1 = some res) : Rd l yX0_counting cX0_counting 5 (some .int) 1 22 (dC, dI) cI cC cZ [(a_t, .inr (0, [.ref a_t_papers, .ref a_t_grants, .ref a_t_routes, .int s_t.1, .int s_t.2.1, .int s_t.2.2])), (a_t_grants, .inr (1, [.int s_t_grants.1, .int s_t_grants.2.1, .ref a_t_grants_cells, .int s_t_grants.2.2])), (a_t_grants_cells, .inl (cI, s_t_grants_cells.1, .inl s_t_grants_cells.2)), (a_t_papers, .inr (1, [.int s_t_papers.1, .int s_t_papers.2.1, .ref a_t_papers_cells, .int s_t_papers.2.2])), (a_t_papers_cells, .inl (cI, s_t_papers_cells.1, .inl s_t_papers_cells.2))] [.ref a_t, .int v1] (some (.int res)) := by
  refine Rd.ofI (by decide) (Nat.le_of_ble_eq_true rfl) [(0, .ref a_t), (1, .int v1)] rfl ?_
  intro p e s m args below meth c ls Q hx hb hml hown hU hE hP rt hl
  have hown : s.vm.findClass RX0 = some m.cls := hown
  unfold mX0_counting at hM
  refine lv_iconst (v := (0 : Int32)) hx hb dX0_counting_0 (by decide) ?_
  refine lv_istore_n (lv' := [(2, .int (0 : Int32)), (0, .ref a_t), (1, .int v1)]) hx hb dX0_counting_1 rfl hl (by decide) rfl (fun ls hl => ?_)
  refine lv_iconst (v := (0 : Int32)) hx hb dX0_counting_2 (by decide) ?_
  refine lv_istore_n (lv' := [(3, .int (0 : Int32)), (2, .int (0 : Int32)), (0, .ref a_t), (1, .int v1)]) hx hb dX0_counting_3 rfl hl (by decide) rfl (fun ls hl => ?_)
  have w_4 : ∀ (n : Nat) (v2_4 : Int32) (v3_4 : Int32), mX0_counting_b4 s_t s_t_grants s_t_grants_cells s_t_papers s_t_papers_cells v1 n v2_4 v3_4 = some res → ∀ (ls : Array Slot), lv_has ls 5 [(0, .ref a_t), (1, .int v1), (2, .int v2_4), (3, .int v3_4)] → W p l e (RM 1 22) s m args below meth c s.heap [] 0 0 Q (F0 m 4 ls []) := by
    intro n
    induction n with
    | zero =>
      intro v2_4 v3_4 hM
      rw [mX0_counting_b4] at hM
      cases hM
    | succ n_4 ih_4 =>
      intro v2_4 v3_4 hM ls hl
      rw [mX0_counting_b4] at hM
      refine lv_iload_n hx hb dX0_counting_4 rfl (lv_at hl 3 rfl) ?_
      refine lv_aload_n hx hb dX0_counting_5 rfl (lv_at hl 0 rfl) ?_
      refine va_get (D := (dC, dI)) (ci := 0) (v := .ref a_t_grants) (C := RX0) (T := TX0) (N := 6) hx hb hU inlX0 hown hE.1 hP 0 rfl rfl 1 (by decide) (hU _ u_3_0) (fun _ h9 => h9) rfl dX0_counting_6 ?_
      refine va_get (D := (dC, dI)) (ci := 1) (v := .int s_t_grants.2.2) (C := RX1) (T := TX1) (N := 4) hx hb hU inlX1 hown hE.1 hP 1 rfl rfl 3 (by decide) (hU _ u_12_3) (fun _ h9 => h9) rfl dX0_counting_9 ?_
      refine lv_icmp_ge (tgt := 99) hx hb dX0_counting_12 (by decide) (fun c12 => ?_) (fun c12 => ?_)
      · have hM := ite_t c12 hM
        refine lv_iload_n hx hb dX0_counting_99 rfl (lv_at hl 2 rfl) ?_
        cases hM
        exact rt _ _ _ dX0_counting_100 rfl
      · have hM := ite_f c12 hM
        refine lv_aload_n hx hb dX0_counting_15 rfl (lv_at hl 0 rfl) ?_
        refine va_get (D := (dC, dI)) (ci := 0) (v := .ref a_t_grants) (C := RX0) (T := TX0) (N := 6) hx hb hU inlX0 hown hE.1 hP 0 rfl rfl 1 (by decide) (hU _ u_3_0) (fun _ h9 => h9) rfl dX0_counting_16 ?_
        refine lv_iload_n hx hb dX0_counting_19 rfl (lv_at hl 3 rfl) ?_
        refine lv_iconst (v := (4 : Int32)) hx hb dX0_counting_20 (by decide) ?_
        obtain ⟨x21, h21, hM⟩ := bind_e hM
        refine rdV (As := [.int v3_4, .int (4 : Int32)]) (rest := []) (st2 := [.int x21]) ⟨hx, hb, hml, hown, hU⟩ hE (okX1_at a_t_grants a_t_grants_cells s_t_grants s_t_grants_cells v3_4 (4 : Int32) x21 h21) lk_X0_43 (hP.sub [1, 2] rfl) rfl rfl rfl hl.1 rfl (Nat.le_of_ble_eq_true rfl) ⟨Nat.le_of_ble_eq_true rfl, Nat.le_of_ble_eq_true rfl⟩ dX0_counting_21 ⟨Nat.le_refl _, Nat.le_refl _⟩ rfl ?_
        refine lv_istore (lv' := [(4, .int x21), (0, .ref a_t), (1, .int v1), (2, .int v2_4), (3, .int v3_4)]) hx hb dX0_counting_24 hl (by decide) rfl (fun ls hl => ?_)
        refine lv_iload hx hb dX0_counting_26 (lv_at hl 0 rfl) ?_
        refine lv_bipush (v := (9 : Int32)) hx hb dX0_counting_28 (by decide) ?_
        refine lv_icmp_eq (tgt := 87) hx hb dX0_counting_30 (by decide) (fun c30 => ?_) (fun c30 => ?_)
        · have hM := ite_t c30 hM
          refine lv_iload_n hx hb dX0_counting_87 rfl (lv_at hl 3 rfl) ?_
          refine lv_iconst (v := (1 : Int32)) hx hb dX0_counting_88 (by decide) ?_
          refine lv_iload_n hx hb dX0_counting_89 rfl (lv_at hl 4 rfl) ?_
          refine lv_ishl hx hb dX0_counting_90 ?_
          refine lv_ior hx hb dX0_counting_91 ?_
          obtain ⟨z92, ez92, hM⟩ := bnd_e hM
          rw [← ez92]
          refine lv_istore_n (lv' := [(2, .int z92), (4, .int x21), (0, .ref a_t), (1, .int v1), (3, .int v3_4)]) hx hb dX0_counting_92 rfl hl (by decide) rfl (fun ls hl => ?_)
          refine lv_iinc (v := (v3_4 + (1 : Int32))) (lv' := [(3, .int (v3_4 + (1 : Int32))), (2, .int z92), (4, .int x21), (0, .ref a_t), (1, .int v1)]) hx hb dX0_counting_93 hl (k := 4) rfl rfl (by decide) rfl (fun ls hl => ?_)
          refine lv_goto (tgt := 4) hx hb dX0_counting_96 (by decide) ?_
          exact ih_4 z92 (v3_4 + (1 : Int32)) hM ls (lv_sub hl [3, 4, 1, 0] rfl)
        · have hM := ite_f c30 hM
          refine lv_iload_n hx hb dX0_counting_33 rfl (lv_at hl 2 rfl) ?_
          refine lv_iload hx hb dX0_counting_34 (lv_at hl 0 rfl) ?_
          obtain ⟨x36, h36, hM⟩ := bind_e hM
          refine rdN (As := [.int v1, .int x21]) (rest := []) (st2 := [.int x36]) ⟨hx, hb, hml, hown, hU⟩ hE hE.2.2.2.2.1 (okX3_bit v1 x21 x36 h36) kn_X3_bit (hP.sub [] rfl) rfl hl.1 rfl (Nat.le_of_ble_eq_true rfl) ⟨Nat.le_of_ble_eq_true rfl, Nat.le_of_ble_eq_true rfl⟩ dX0_counting_36 ⟨Nat.le_refl _, Nat.le_refl _⟩ rfl ?_
          refine lv_iconst (v := (1 : Int32)) hx hb dX0_counting_39 (by decide) ?_
          refine lv_icmp_ne (tgt := 93) hx hb dX0_counting_40 (by decide) (fun c40 => ?_) (fun c40 => ?_)
          · have hM := ite_f c40 hM
            refine lv_iinc (v := (v3_4 + (1 : Int32))) (lv' := [(3, .int (v3_4 + (1 : Int32))), (4, .int x21), (0, .ref a_t), (1, .int v1), (2, .int v2_4)]) hx hb dX0_counting_93 hl (k := 4) rfl rfl (by decide) rfl (fun ls hl => ?_)
            refine lv_goto (tgt := 4) hx hb dX0_counting_96 (by decide) ?_
            exact ih_4 v2_4 (v3_4 + (1 : Int32)) hM ls (lv_sub hl [2, 3, 4, 0] rfl)
          · have hM := ite_t c40 hM
            refine lv_aload_n hx hb dX0_counting_43 rfl (lv_at hl 1 rfl) ?_
            refine va_get (D := (dC, dI)) (ci := 0) (v := .ref a_t_grants) (C := RX0) (T := TX0) (N := 6) hx hb hU inlX0 hown hE.1 hP 0 rfl rfl 1 (by decide) (hU _ u_3_0) (fun _ h9 => h9) rfl dX0_counting_44 ?_
            refine lv_iload_n hx hb dX0_counting_47 rfl (lv_at hl 4 rfl) ?_
            refine lv_iconst (v := (2 : Int32)) hx hb dX0_counting_48 (by decide) ?_
            obtain ⟨x49, h49, hM⟩ := bind_e hM
            refine rdV (As := [.int v3_4, .int (2 : Int32)]) (rest := []) (st2 := [.int x49]) ⟨hx, hb, hml, hown, hU⟩ hE (okX1_at a_t_grants a_t_grants_cells s_t_grants s_t_grants_cells v3_4 (2 : Int32) x49 h49) lk_X0_43 (hP.sub [1, 2] rfl) rfl rfl rfl hl.1 rfl (Nat.le_of_ble_eq_true rfl) ⟨Nat.le_of_ble_eq_true rfl, Nat.le_of_ble_eq_true rfl⟩ dX0_counting_49 ⟨Nat.le_refl _, Nat.le_refl _⟩ rfl ?_
            refine lv_aload_n hx hb dX0_counting_52 rfl (lv_at hl 1 rfl) ?_
            refine va_get (D := (dC, dI)) (ci := 0) (v := .ref a_t_papers) (C := RX0) (T := TX0) (N := 6) hx hb hU inlX0 hown hE.1 hP 0 rfl rfl 0 (by decide) (hU _ u_3_2) (fun _ h9 => h9) rfl dX0_counting_53 ?_
            refine lv_iload hx hb dX0_counting_56 (lv_at hl 0 rfl) ?_
            refine lv_iconst (v := (2 : Int32)) hx hb dX0_counting_58 (by decide) ?_
            obtain ⟨x59, h59, hM⟩ := bind_e hM
            refine rdV (As := [.int x21, .int (2 : Int32)]) (rest := [.int x49]) (st2 := [.int x59, .int x49]) ⟨hx, hb, hml, hown, hU⟩ hE (okX1_at a_t_papers a_t_papers_cells s_t_papers s_t_papers_cells x21 (2 : Int32) x59 h59) lk_X0_43 (hP.sub [3, 4] rfl) rfl rfl rfl hl.1 rfl (Nat.le_of_ble_eq_true rfl) ⟨Nat.le_of_ble_eq_true rfl, Nat.le_of_ble_eq_true rfl⟩ dX0_counting_59 ⟨Nat.le_refl _, Nat.le_refl _⟩ rfl ?_
            obtain ⟨x62, h62, hM⟩ := bind_e hM
            refine rdN (As := [.int x49, .int x59]) (rest := []) (st2 := [.int (b2i x62)]) ⟨hx, hb, hml, hown, hU⟩ hE hE.2.2.2.2.2.1 (okX3_isWithin x49 x59 x62 h62) kn_X3_isWithin (hP.sub [] rfl) rfl hl.1 rfl (Nat.le_of_ble_eq_true rfl) ⟨Nat.le_of_ble_eq_true rfl, Nat.le_of_ble_eq_true rfl⟩ dX0_counting_62 ⟨Nat.le_refl _, Nat.le_refl _⟩ rfl ?_
            refine lv_if_eq (tgt := 93) hx hb dX0_counting_65 (by decide) (fun c65 => ?_) (fun c65 => ?_)
            · have hM := ite_f (b2i_eq0 c65) hM
              refine lv_iinc (v := (v3_4 + (1 : Int32))) (lv' := [(3, .int (v3_4 + (1 : Int32))), (4, .int x21), (0, .ref a_t), (1, .int v1), (2, .int v2_4)]) hx hb dX0_counting_93 hl (k := 4) rfl rfl (by decide) rfl (fun ls hl => ?_)
              refine lv_goto (tgt := 4) hx hb dX0_counting_96 (by decide) ?_
              exact ih_4 v2_4 (v3_4 + (1 : Int32)) hM ls (lv_sub hl [2, 3, 4, 0] rfl)
            · have hM := ite_t (b2i_ne0 c65) hM
              refine lv_aload_n hx hb dX0_counting_68 rfl (lv_at hl 1 rfl) ?_
              refine va_get (D := (dC, dI)) (ci := 0) (v := .int s_t.2.1) (C := RX0) (T := TX0) (N := 6) hx hb hU inlX0 hown hE.1 hP 0 rfl rfl 4 (by decide) (hU _ u_11_3) (fun _ h9 => h9) rfl dX0_counting_69 ?_
              refine lv_aload_n hx hb dX0_counting_72 rfl (lv_at hl 1 rfl) ?_
              refine va_get (D := (dC, dI)) (ci := 0) (v := .ref a_t_grants) (C := RX0) (T := TX0) (N := 6) hx hb hU inlX0 hown hE.1 hP 0 rfl rfl 1 (by decide) (hU _ u_3_0) (fun _ h9 => h9) rfl dX0_counting_73 ?_
              refine lv_iload_n hx hb dX0_counting_76 rfl (lv_at hl 4 rfl) ?_
              refine lv_iconst (v := (3 : Int32)) hx hb dX0_counting_77 (by decide) ?_
              obtain ⟨x78, h78, hM⟩ := bind_e hM
              refine rdV (As := [.int v3_4, .int (3 : Int32)]) (rest := [.int s_t.2.1]) (st2 := [.int x78, .int s_t.2.1]) ⟨hx, hb, hml, hown, hU⟩ hE (okX1_at a_t_grants a_t_grants_cells s_t_grants s_t_grants_cells v3_4 (3 : Int32) x78 h78) lk_X0_43 (hP.sub [1, 2] rfl) rfl rfl rfl hl.1 rfl (Nat.le_of_ble_eq_true rfl) ⟨Nat.le_of_ble_eq_true rfl, Nat.le_of_ble_eq_true rfl⟩ dX0_counting_78 ⟨Nat.le_refl _, Nat.le_refl _⟩ rfl ?_
              obtain ⟨x81, h81, hM⟩ := bind_e hM
              refine rdN (As := [.int s_t.2.1, .int x78]) (rest := []) (st2 := [.int x81]) ⟨hx, hb, hml, hown, hU⟩ hE hE.2.2.2.2.1 (okX3_bit s_t.2.1 x78 x81 h81) kn_X3_bit (hP.sub [] rfl) rfl hl.1 rfl (Nat.le_of_ble_eq_true rfl) ⟨Nat.le_of_ble_eq_true rfl, Nat.le_of_ble_eq_true rfl⟩ dX0_counting_81 ⟨Nat.le_refl _, Nat.le_refl _⟩ rfl ?_
              refine lv_if_ne (tgt := 93) hx hb dX0_counting_84 (by decide) (fun c84 => ?_) (fun c84 => ?_)
              · have hM := ite_f c84 hM
                refine lv_iinc (v := (v3_4 + (1 : Int32))) (lv' := [(3, .int (v3_4 + (1 : Int32))), (4, .int x21), (0, .ref a_t), (1, .int v1), (2, .int v2_4)]) hx hb dX0_counting_93 hl (k := 4) rfl rfl (by decide) rfl (fun ls hl => ?_)
                refine lv_goto (tgt := 4) hx hb dX0_counting_96 (by decide) ?_
                exact ih_4 v2_4 (v3_4 + (1 : Int32)) hM ls (lv_sub hl [2, 3, 4, 0] rfl)
              · have hM := ite_t c84 hM
                refine lv_iload_n hx hb dX0_counting_87 rfl (lv_at hl 3 rfl) ?_
                refine lv_iconst (v := (1 : Int32)) hx hb dX0_counting_88 (by decide) ?_
                refine lv_iload_n hx hb dX0_counting_89 rfl (lv_at hl 4 rfl) ?_
                refine lv_ishl hx hb dX0_counting_90 ?_
                refine lv_ior hx hb dX0_counting_91 ?_
                obtain ⟨z92, ez92, hM⟩ := bnd_e hM
                rw [← ez92]
                refine lv_istore_n (lv' := [(2, .int z92), (4, .int x21), (0, .ref a_t), (1, .int v1), (3, .int v3_4)]) hx hb dX0_counting_92 rfl hl (by decide) rfl (fun ls hl => ?_)
                refine lv_iinc (v := (v3_4 + (1 : Int32))) (lv' := [(3, .int (v3_4 + (1 : Int32))), (2, .int z92), (4, .int x21), (0, .ref a_t), (1, .int v1)]) hx hb dX0_counting_93 hl (k := 4) rfl rfl (by decide) rfl (fun ls hl => ?_)
                refine lv_goto (tgt := 4) hx hb dX0_counting_96 (by decide) ?_
                exact ih_4 z92 (v3_4 + (1 : Int32)) hM ls (lv_sub hl [3, 4, 1, 0] rfl)
  exact w_4 FU (0 : Int32) (0 : Int32) hM ls (lv_sub hl [2, 3, 1, 0] rfl)
noncomputable def mX0_standing_b4 (s_t : Int32 × Int32 × Int32) (s_t_papers : Int32 × Int32 × Int32) (s_t_papers_cells : Ar) (v1 : Int32) : Nat → Int32 → Int32 → Option (Int32)
  | 0, _, _ => none
  | n + 1, v2, v3 => (if s_t_papers.2.2 ≤ v3 then some (v2) else (mX1_at s_t_papers s_t_papers_cells v3 (3 : Int32)).bind (fun x21 => (mX3_bit v1 v3).bind (fun x28 => (if x28 = 0 then (mX1_at s_t_papers s_t_papers_cells v3 (4 : Int32)).bind (fun x44 => (if x44 < s_t.2.2 then mX0_standing_b4 s_t s_t_papers s_t_papers_cells v1 n v2 (v3 + (1 : Int32)) else (mX3_bit v2 x21).bind (fun x53 => (if x53 = (1 : Int32) then (mX1_at s_t_papers s_t_papers_cells v3 (2 : Int32)).bind (fun x66 => (mX1_at s_t_papers s_t_papers_cells x21 (2 : Int32)).bind (fun x76 => (mX3_isWithin x66 x76).bind (fun x79 => (if x79 = true then bnd (v2 ||| ((1 : Int32) <<< (v3 &&& 31))) (fun z90 => mX0_standing_b4 s_t s_t_papers s_t_papers_cells v1 n z90 (v3 + (1 : Int32))) else mX0_standing_b4 s_t s_t_papers s_t_papers_cells v1 n v2 (v3 + (1 : Int32)))))) else mX0_standing_b4 s_t s_t_papers s_t_papers_cells v1 n v2 (v3 + (1 : Int32)))))) else mX0_standing_b4 s_t s_t_papers s_t_papers_cells v1 n v2 (v3 + (1 : Int32))))))
noncomputable def mX0_standing (s_t : Int32 × Int32 × Int32) (s_t_papers : Int32 × Int32 × Int32) (s_t_papers_cells : Ar) (v1 : Int32) : Option (Int32) := mX0_standing_b4 s_t s_t_papers s_t_papers_cells v1 FU (1 : Int32) (1 : Int32)
set_option maxHeartbeats 4000000 in
set_option maxRecDepth 100000 in
theorem okX0_standing {l : Launch} {dC : Nat → ClassId} {dI : Nat → Nat → Nat} {cI cC cZ : ClassId} (a_t a_t_papers a_t_grants a_t_routes a_t_papers_cells : Nat) (s_t : Int32 × Int32 × Int32) (s_t_papers : Int32 × Int32 × Int32) (s_t_papers_cells : Ar) (v1 : Int32) (res : Int32) (hM : mX0_standing s_t s_t_papers s_t_papers_cells v1 = some res) : Rd l yX0_standing cX0_standing 5 (some .int) 1 22 (dC, dI) cI cC cZ [(a_t, .inr (0, [.ref a_t_papers, .ref a_t_grants, .ref a_t_routes, .int s_t.1, .int s_t.2.1, .int s_t.2.2])), (a_t_papers, .inr (1, [.int s_t_papers.1, .int s_t_papers.2.1, .ref a_t_papers_cells, .int s_t_papers.2.2])), (a_t_papers_cells, .inl (cI, s_t_papers_cells.1, .inl s_t_papers_cells.2))] [.ref a_t, .int v1] (some (.int res)) := by
  refine Rd.ofI (by decide) (Nat.le_of_ble_eq_true rfl) [(0, .ref a_t), (1, .int v1)] rfl ?_
  intro p e s m args below meth c ls Q hx hb hml hown hU hE hP rt hl
  have hown : s.vm.findClass RX0 = some m.cls := hown
  unfold mX0_standing at hM
  refine lv_iconst (v := (1 : Int32)) hx hb dX0_standing_0 (by decide) ?_
  refine lv_istore_n (lv' := [(2, .int (1 : Int32)), (0, .ref a_t), (1, .int v1)]) hx hb dX0_standing_1 rfl hl (by decide) rfl (fun ls hl => ?_)
  refine lv_iconst (v := (1 : Int32)) hx hb dX0_standing_2 (by decide) ?_
  refine lv_istore_n (lv' := [(3, .int (1 : Int32)), (2, .int (1 : Int32)), (0, .ref a_t), (1, .int v1)]) hx hb dX0_standing_3 rfl hl (by decide) rfl (fun ls hl => ?_)
  have w_4 : ∀ (n : Nat) (v2_4 : Int32) (v3_4 : Int32), mX0_standing_b4 s_t s_t_papers s_t_papers_cells v1 n v2_4 v3_4 = some res → ∀ (ls : Array Slot), lv_has ls 5 [(0, .ref a_t), (1, .int v1), (2, .int v2_4), (3, .int v3_4)] → W p l e (RM 1 22) s m args below meth c s.heap [] 0 0 Q (F0 m 4 ls []) := by
    intro n
    induction n with
    | zero =>
      intro v2_4 v3_4 hM
      rw [mX0_standing_b4] at hM
      cases hM
    | succ n_4 ih_4 =>
      intro v2_4 v3_4 hM ls hl
      rw [mX0_standing_b4] at hM
      refine lv_iload_n hx hb dX0_standing_4 rfl (lv_at hl 3 rfl) ?_
      refine lv_aload_n hx hb dX0_standing_5 rfl (lv_at hl 0 rfl) ?_
      refine va_get (D := (dC, dI)) (ci := 0) (v := .ref a_t_papers) (C := RX0) (T := TX0) (N := 6) hx hb hU inlX0 hown hE.1 hP 0 rfl rfl 0 (by decide) (hU _ u_3_2) (fun _ h9 => h9) rfl dX0_standing_6 ?_
      refine va_get (D := (dC, dI)) (ci := 1) (v := .int s_t_papers.2.2) (C := RX1) (T := TX1) (N := 4) hx hb hU inlX1 hown hE.1 hP 1 rfl rfl 3 (by decide) (hU _ u_12_3) (fun _ h9 => h9) rfl dX0_standing_9 ?_
      refine lv_icmp_ge (tgt := 97) hx hb dX0_standing_12 (by decide) (fun c12 => ?_) (fun c12 => ?_)
      · have hM := ite_t c12 hM
        refine lv_iload_n hx hb dX0_standing_97 rfl (lv_at hl 2 rfl) ?_
        cases hM
        exact rt _ _ _ dX0_standing_98 rfl
      · have hM := ite_f c12 hM
        refine lv_aload_n hx hb dX0_standing_15 rfl (lv_at hl 0 rfl) ?_
        refine va_get (D := (dC, dI)) (ci := 0) (v := .ref a_t_papers) (C := RX0) (T := TX0) (N := 6) hx hb hU inlX0 hown hE.1 hP 0 rfl rfl 0 (by decide) (hU _ u_3_2) (fun _ h9 => h9) rfl dX0_standing_16 ?_
        refine lv_iload_n hx hb dX0_standing_19 rfl (lv_at hl 3 rfl) ?_
        refine lv_iconst (v := (3 : Int32)) hx hb dX0_standing_20 (by decide) ?_
        obtain ⟨x21, h21, hM⟩ := bind_e hM
        refine rdV (As := [.int v3_4, .int (3 : Int32)]) (rest := []) (st2 := [.int x21]) ⟨hx, hb, hml, hown, hU⟩ hE (okX1_at a_t_papers a_t_papers_cells s_t_papers s_t_papers_cells v3_4 (3 : Int32) x21 h21) lk_X0_43 (hP.sub [1, 2] rfl) rfl rfl rfl hl.1 rfl (Nat.le_of_ble_eq_true rfl) ⟨Nat.le_of_ble_eq_true rfl, Nat.le_of_ble_eq_true rfl⟩ dX0_standing_21 ⟨Nat.le_refl _, Nat.le_refl _⟩ rfl ?_
        refine lv_istore (lv' := [(4, .int x21), (0, .ref a_t), (1, .int v1), (2, .int v2_4), (3, .int v3_4)]) hx hb dX0_standing_24 hl (by decide) rfl (fun ls hl => ?_)
        refine lv_iload_n hx hb dX0_standing_26 rfl (lv_at hl 2 rfl) ?_
        refine lv_iload_n hx hb dX0_standing_27 rfl (lv_at hl 4 rfl) ?_
        obtain ⟨x28, h28, hM⟩ := bind_e hM
        refine rdN (As := [.int v1, .int v3_4]) (rest := []) (st2 := [.int x28]) ⟨hx, hb, hml, hown, hU⟩ hE hE.2.2.2.2.1 (okX3_bit v1 v3_4 x28 h28) kn_X3_bit (hP.sub [] rfl) rfl hl.1 rfl (Nat.le_of_ble_eq_true rfl) ⟨Nat.le_of_ble_eq_true rfl, Nat.le_of_ble_eq_true rfl⟩ dX0_standing_28 ⟨Nat.le_refl _, Nat.le_refl _⟩ rfl ?_
        refine lv_if_ne (tgt := 91) hx hb dX0_standing_31 (by decide) (fun c31 => ?_) (fun c31 => ?_)
        · have hM := ite_f c31 hM
          refine lv_iinc (v := (v3_4 + (1 : Int32))) (lv' := [(3, .int (v3_4 + (1 : Int32))), (4, .int x21), (0, .ref a_t), (1, .int v1), (2, .int v2_4)]) hx hb dX0_standing_91 hl (k := 4) rfl rfl (by decide) rfl (fun ls hl => ?_)
          refine lv_goto (tgt := 4) hx hb dX0_standing_94 (by decide) ?_
          exact ih_4 v2_4 (v3_4 + (1 : Int32)) hM ls (lv_sub hl [2, 3, 4, 0] rfl)
        · have hM := ite_t c31 hM
          refine lv_aload_n hx hb dX0_standing_34 rfl (lv_at hl 1 rfl) ?_
          refine va_get (D := (dC, dI)) (ci := 0) (v := .int s_t.2.2) (C := RX0) (T := TX0) (N := 6) hx hb hU inlX0 hown hE.1 hP 0 rfl rfl 5 (by decide) (hU _ u_11_4) (fun _ h9 => h9) rfl dX0_standing_35 ?_
          refine lv_aload_n hx hb dX0_standing_38 rfl (lv_at hl 1 rfl) ?_
          refine va_get (D := (dC, dI)) (ci := 0) (v := .ref a_t_papers) (C := RX0) (T := TX0) (N := 6) hx hb hU inlX0 hown hE.1 hP 0 rfl rfl 0 (by decide) (hU _ u_3_2) (fun _ h9 => h9) rfl dX0_standing_39 ?_
          refine lv_iload_n hx hb dX0_standing_42 rfl (lv_at hl 4 rfl) ?_
          refine lv_iconst (v := (4 : Int32)) hx hb dX0_standing_43 (by decide) ?_
          obtain ⟨x44, h44, hM⟩ := bind_e hM
          refine rdV (As := [.int v3_4, .int (4 : Int32)]) (rest := [.int s_t.2.2]) (st2 := [.int x44, .int s_t.2.2]) ⟨hx, hb, hml, hown, hU⟩ hE (okX1_at a_t_papers a_t_papers_cells s_t_papers s_t_papers_cells v3_4 (4 : Int32) x44 h44) lk_X0_43 (hP.sub [1, 2] rfl) rfl rfl rfl hl.1 rfl (Nat.le_of_ble_eq_true rfl) ⟨Nat.le_of_ble_eq_true rfl, Nat.le_of_ble_eq_true rfl⟩ dX0_standing_44 ⟨Nat.le_refl _, Nat.le_refl _⟩ rfl ?_
          refine lv_icmp_gt (tgt := 91) hx hb dX0_standing_47 (by decide) (fun c47 => ?_) (fun c47 => ?_)
          · have hM := ite_t c47 hM
            refine lv_iinc (v := (v3_4 + (1 : Int32))) (lv' := [(3, .int (v3_4 + (1 : Int32))), (4, .int x21), (0, .ref a_t), (1, .int v1), (2, .int v2_4)]) hx hb dX0_standing_91 hl (k := 4) rfl rfl (by decide) rfl (fun ls hl => ?_)
            refine lv_goto (tgt := 4) hx hb dX0_standing_94 (by decide) ?_
            exact ih_4 v2_4 (v3_4 + (1 : Int32)) hM ls (lv_sub hl [2, 3, 4, 0] rfl)
          · have hM := ite_f c47 hM
            refine lv_iload_n hx hb dX0_standing_50 rfl (lv_at hl 3 rfl) ?_
            refine lv_iload hx hb dX0_standing_51 (lv_at hl 0 rfl) ?_
            obtain ⟨x53, h53, hM⟩ := bind_e hM
            refine rdN (As := [.int v2_4, .int x21]) (rest := []) (st2 := [.int x53]) ⟨hx, hb, hml, hown, hU⟩ hE hE.2.2.2.2.1 (okX3_bit v2_4 x21 x53 h53) kn_X3_bit (hP.sub [] rfl) rfl hl.1 rfl (Nat.le_of_ble_eq_true rfl) ⟨Nat.le_of_ble_eq_true rfl, Nat.le_of_ble_eq_true rfl⟩ dX0_standing_53 ⟨Nat.le_refl _, Nat.le_refl _⟩ rfl ?_
            refine lv_iconst (v := (1 : Int32)) hx hb dX0_standing_56 (by decide) ?_
            refine lv_icmp_ne (tgt := 91) hx hb dX0_standing_57 (by decide) (fun c57 => ?_) (fun c57 => ?_)
            · have hM := ite_f c57 hM
              refine lv_iinc (v := (v3_4 + (1 : Int32))) (lv' := [(3, .int (v3_4 + (1 : Int32))), (4, .int x21), (0, .ref a_t), (1, .int v1), (2, .int v2_4)]) hx hb dX0_standing_91 hl (k := 4) rfl rfl (by decide) rfl (fun ls hl => ?_)
              refine lv_goto (tgt := 4) hx hb dX0_standing_94 (by decide) ?_
              exact ih_4 v2_4 (v3_4 + (1 : Int32)) hM ls (lv_sub hl [2, 3, 4, 0] rfl)
            · have hM := ite_t c57 hM
              refine lv_aload_n hx hb dX0_standing_60 rfl (lv_at hl 1 rfl) ?_
              refine va_get (D := (dC, dI)) (ci := 0) (v := .ref a_t_papers) (C := RX0) (T := TX0) (N := 6) hx hb hU inlX0 hown hE.1 hP 0 rfl rfl 0 (by decide) (hU _ u_3_2) (fun _ h9 => h9) rfl dX0_standing_61 ?_
              refine lv_iload_n hx hb dX0_standing_64 rfl (lv_at hl 4 rfl) ?_
              refine lv_iconst (v := (2 : Int32)) hx hb dX0_standing_65 (by decide) ?_
              obtain ⟨x66, h66, hM⟩ := bind_e hM
              refine rdV (As := [.int v3_4, .int (2 : Int32)]) (rest := []) (st2 := [.int x66]) ⟨hx, hb, hml, hown, hU⟩ hE (okX1_at a_t_papers a_t_papers_cells s_t_papers s_t_papers_cells v3_4 (2 : Int32) x66 h66) lk_X0_43 (hP.sub [1, 2] rfl) rfl rfl rfl hl.1 rfl (Nat.le_of_ble_eq_true rfl) ⟨Nat.le_of_ble_eq_true rfl, Nat.le_of_ble_eq_true rfl⟩ dX0_standing_66 ⟨Nat.le_refl _, Nat.le_refl _⟩ rfl ?_
              refine lv_aload_n hx hb dX0_standing_69 rfl (lv_at hl 1 rfl) ?_
              refine va_get (D := (dC, dI)) (ci := 0) (v := .ref a_t_papers) (C := RX0) (T := TX0) (N := 6) hx hb hU inlX0 hown hE.1 hP 0 rfl rfl 0 (by decide) (hU _ u_3_2) (fun _ h9 => h9) rfl dX0_standing_70 ?_
              refine lv_iload hx hb dX0_standing_73 (lv_at hl 0 rfl) ?_
              refine lv_iconst (v := (2 : Int32)) hx hb dX0_standing_75 (by decide) ?_
              obtain ⟨x76, h76, hM⟩ := bind_e hM
              refine rdV (As := [.int x21, .int (2 : Int32)]) (rest := [.int x66]) (st2 := [.int x76, .int x66]) ⟨hx, hb, hml, hown, hU⟩ hE (okX1_at a_t_papers a_t_papers_cells s_t_papers s_t_papers_cells x21 (2 : Int32) x76 h76) lk_X0_43 (hP.sub [1, 2] rfl) rfl rfl rfl hl.1 rfl (Nat.le_of_ble_eq_true rfl) ⟨Nat.le_of_ble_eq_true rfl, Nat.le_of_ble_eq_true rfl⟩ dX0_standing_76 ⟨Nat.le_refl _, Nat.le_refl _⟩ rfl ?_
              obtain ⟨x79, h79, hM⟩ := bind_e hM
              refine rdN (As := [.int x66, .int x76]) (rest := []) (st2 := [.int (b2i x79)]) ⟨hx, hb, hml, hown, hU⟩ hE hE.2.2.2.2.2.1 (okX3_isWithin x66 x76 x79 h79) kn_X3_isWithin (hP.sub [] rfl) rfl hl.1 rfl (Nat.le_of_ble_eq_true rfl) ⟨Nat.le_of_ble_eq_true rfl, Nat.le_of_ble_eq_true rfl⟩ dX0_standing_79 ⟨Nat.le_refl _, Nat.le_refl _⟩ rfl ?_
              refine lv_if_eq (tgt := 91) hx hb dX0_standing_82 (by decide) (fun c82 => ?_) (fun c82 => ?_)
              · have hM := ite_f (b2i_eq0 c82) hM
                refine lv_iinc (v := (v3_4 + (1 : Int32))) (lv' := [(3, .int (v3_4 + (1 : Int32))), (4, .int x21), (0, .ref a_t), (1, .int v1), (2, .int v2_4)]) hx hb dX0_standing_91 hl (k := 4) rfl rfl (by decide) rfl (fun ls hl => ?_)
                refine lv_goto (tgt := 4) hx hb dX0_standing_94 (by decide) ?_
                exact ih_4 v2_4 (v3_4 + (1 : Int32)) hM ls (lv_sub hl [2, 3, 4, 0] rfl)
              · have hM := ite_t (b2i_ne0 c82) hM
                refine lv_iload_n hx hb dX0_standing_85 rfl (lv_at hl 3 rfl) ?_
                refine lv_iconst (v := (1 : Int32)) hx hb dX0_standing_86 (by decide) ?_
                refine lv_iload_n hx hb dX0_standing_87 rfl (lv_at hl 4 rfl) ?_
                refine lv_ishl hx hb dX0_standing_88 ?_
                refine lv_ior hx hb dX0_standing_89 ?_
                obtain ⟨z90, ez90, hM⟩ := bnd_e hM
                rw [← ez90]
                refine lv_istore_n (lv' := [(2, .int z90), (4, .int x21), (0, .ref a_t), (1, .int v1), (3, .int v3_4)]) hx hb dX0_standing_90 rfl hl (by decide) rfl (fun ls hl => ?_)
                refine lv_iinc (v := (v3_4 + (1 : Int32))) (lv' := [(3, .int (v3_4 + (1 : Int32))), (2, .int z90), (4, .int x21), (0, .ref a_t), (1, .int v1)]) hx hb dX0_standing_91 hl (k := 4) rfl rfl (by decide) rfl (fun ls hl => ?_)
                refine lv_goto (tgt := 4) hx hb dX0_standing_94 (by decide) ?_
                exact ih_4 z90 (v3_4 + (1 : Int32)) hM ls (lv_sub hl [3, 4, 1, 0] rfl)
  exact w_4 FU (1 : Int32) (1 : Int32) hM ls (lv_sub hl [2, 3, 1, 0] rfl)
noncomputable def mX0_countingNow (s_t : Int32 × Int32 × Int32) (s_t_papers : Int32 × Int32 × Int32) (s_t_papers_cells : Ar) (s_t_grants : Int32 × Int32 × Int32) (s_t_grants_cells : Ar) : Option (Int32) := (mX0_standing s_t s_t_papers s_t_papers_cells s_t.1).bind (fun x6 => (mX0_counting s_t s_t_grants s_t_grants_cells s_t_papers s_t_papers_cells x6).bind (fun x9 => some (x9)))
set_option maxHeartbeats 4000000 in
set_option maxRecDepth 100000 in
theorem okX0_countingNow {l : Launch} {dC : Nat → ClassId} {dI : Nat → Nat → Nat} {cI cC cZ : ClassId} (a_t a_t_papers a_t_grants a_t_routes a_t_papers_cells a_t_grants_cells : Nat) (s_t : Int32 × Int32 × Int32) (s_t_papers : Int32 × Int32 × Int32) (s_t_papers_cells : Ar) (s_t_grants : Int32 × Int32 × Int32) (s_t_grants_cells : Ar) (res : Int32) (hM : mX0_countingNow s_t s_t_papers s_t_papers_cells s_t_grants s_t_grants_cells = some res) : Rd l yX0_countingNow cX0_countingNow 1 (some .int) 2 46 (dC, dI) cI cC cZ [(a_t, .inr (0, [.ref a_t_papers, .ref a_t_grants, .ref a_t_routes, .int s_t.1, .int s_t.2.1, .int s_t.2.2])), (a_t_papers, .inr (1, [.int s_t_papers.1, .int s_t_papers.2.1, .ref a_t_papers_cells, .int s_t_papers.2.2])), (a_t_papers_cells, .inl (cI, s_t_papers_cells.1, .inl s_t_papers_cells.2)), (a_t_grants, .inr (1, [.int s_t_grants.1, .int s_t_grants.2.1, .ref a_t_grants_cells, .int s_t_grants.2.2])), (a_t_grants_cells, .inl (cI, s_t_grants_cells.1, .inl s_t_grants_cells.2))] [.ref a_t] (some (.int res)) := by
  refine Rd.ofI (by decide) (Nat.le_of_ble_eq_true rfl) [(0, .ref a_t)] rfl ?_
  intro p e s m args below meth c ls Q hx hb hml hown hU hE hP rt hl
  have hown : s.vm.findClass RX0 = some m.cls := hown
  unfold mX0_countingNow at hM
  refine lv_aload_n hx hb dX0_countingNow_0 rfl (lv_at hl 0 rfl) ?_
  refine lv_aload_n hx hb dX0_countingNow_1 rfl (lv_at hl 0 rfl) ?_
  refine lv_aload_n hx hb dX0_countingNow_2 rfl (lv_at hl 0 rfl) ?_
  refine va_get (D := (dC, dI)) (ci := 0) (v := .int s_t.1) (C := RX0) (T := TX0) (N := 6) hx hb hU inlX0 hown hE.1 hP 0 rfl rfl 3 (by decide) (hU _ u_11_2) (fun _ h9 => h9) rfl dX0_countingNow_3 ?_
  obtain ⟨x6, h6, hM⟩ := bind_e hM
  refine rdV (As := [.int s_t.1]) (rest := [.ref a_t]) (st2 := [.int x6, .ref a_t]) ⟨hx, hb, hml, hown, hU⟩ hE (okX0_standing a_t a_t_papers a_t_grants a_t_routes a_t_papers_cells s_t s_t_papers s_t_papers_cells s_t.1 x6 h6) lk_X0_54 (hP.sub [0, 1, 2] rfl) rfl rfl rfl hl.1 rfl (Nat.le_of_ble_eq_true rfl) ⟨Nat.le_of_ble_eq_true rfl, Nat.le_of_ble_eq_true rfl⟩ dX0_countingNow_6 ⟨Nat.le_refl _, Nat.le_refl _⟩ rfl ?_
  obtain ⟨x9, h9, hM⟩ := bind_e hM
  refine rdV (As := [.int x6]) (rest := []) (st2 := [.int x9]) ⟨hx, hb, hml, hown, hU⟩ hE (okX0_counting a_t a_t_papers a_t_grants a_t_routes a_t_grants_cells a_t_papers_cells s_t s_t_grants s_t_grants_cells s_t_papers s_t_papers_cells x6 x9 h9) lk_X0_58 (hP.sub [0, 3, 4, 1, 2] rfl) rfl rfl rfl hl.1 rfl (Nat.le_of_ble_eq_true rfl) ⟨Nat.le_of_ble_eq_true rfl, Nat.le_of_ble_eq_true rfl⟩ dX0_countingNow_9 ⟨Nat.le_refl _, Nat.le_refl _⟩ rfl ?_
  cases hM
  exact rt _ _ _ dX0_countingNow_12 rfl
noncomputable def mX0_stateOf_b6 (s_t_grants : Int32 × Int32 × Int32) (s_t_grants_cells : Ar) (v1 : Int32) (v2 : Int32) (v3 : Int32) (v4 : Int32) : Nat → Bool → Int32 → Option (Int32)
  | 0, _, _ => none
  | n + 1, v5, v6 => (if s_t_grants.2.2 ≤ v6 then some ((b2i v5)) else (mX3_bit v4 v6).bind (fun x22 => (if x22 = (1 : Int32) then (mX1_at s_t_grants s_t_grants_cells v6 (2 : Int32)).bind (fun x37 => (mX3_isWithin v1 x37).bind (fun x40 => (if x40 = true then (mX1_at s_t_grants s_t_grants_cells v6 (3 : Int32)).bind (fun x53 => (if x53 = v3 then (mX1_at s_t_grants s_t_grants_cells v6 (5 : Int32)).bind (fun x67 => (if x67 < v2 then mX0_stateOf_b6 s_t_grants s_t_grants_cells v1 v2 v3 v4 n false (v6 + (1 : Int32)) else some ((2 : Int32)))) else mX0_stateOf_b6 s_t_grants s_t_grants_cells v1 v2 v3 v4 n false (v6 + (1 : Int32)))) else mX0_stateOf_b6 s_t_grants s_t_grants_cells v1 v2 v3 v4 n v5 (v6 + (1 : Int32))))) else mX0_stateOf_b6 s_t_grants s_t_grants_cells v1 v2 v3 v4 n v5 (v6 + (1 : Int32)))))
noncomputable def mX0_stateOf (s_t_grants : Int32 × Int32 × Int32) (s_t_grants_cells : Ar) (v1 : Int32) (v2 : Int32) (v3 : Int32) (v4 : Int32) : Option (Int32) := mX0_stateOf_b6 s_t_grants s_t_grants_cells v1 v2 v3 v4 FU true (0 : Int32)
set_option maxHeartbeats 4000000 in
set_option maxRecDepth 100000 in
theorem okX0_stateOf {l : Launch} {dC : Nat → ClassId} {dI : Nat → Nat → Nat} {cI cC cZ : ClassId} (a_t a_t_papers a_t_grants a_t_routes a_t_grants_cells : Nat) (s_t : Int32 × Int32 × Int32) (s_t_grants : Int32 × Int32 × Int32) (s_t_grants_cells : Ar) (v1 : Int32) (v2 : Int32) (v3 : Int32) (v4 : Int32) (res : Int32) (hM : mX0_stateOf s_t_grants s_t_grants_cells v1 v2 v3 v4 = some res) : Rd l yX0_stateOf cX0_stateOf 7 (some .int) 1 22 (dC, dI) cI cC cZ [(a_t, .inr (0, [.ref a_t_papers, .ref a_t_grants, .ref a_t_routes, .int s_t.1, .int s_t.2.1, .int s_t.2.2])), (a_t_grants, .inr (1, [.int s_t_grants.1, .int s_t_grants.2.1, .ref a_t_grants_cells, .int s_t_grants.2.2])), (a_t_grants_cells, .inl (cI, s_t_grants_cells.1, .inl s_t_grants_cells.2))] [.ref a_t, .int v1, .int v2, .int v3, .int v4] (some (.int res)) := by
  refine Rd.ofI (by decide) (Nat.le_of_ble_eq_true rfl) [(0, .ref a_t), (1, .int v1), (2, .int v2), (3, .int v3), (4, .int v4)] rfl ?_
  intro p e s m args below meth c ls Q hx hb hml hown hU hE hP rt hl
  have hown : s.vm.findClass RX0 = some m.cls := hown
  unfold mX0_stateOf at hM
  refine lv_iconst (v := (1 : Int32)) hx hb dX0_stateOf_0 (by decide) ?_
  refine lv_istore (lv' := [(5, .int (1 : Int32)), (0, .ref a_t), (1, .int v1), (2, .int v2), (3, .int v3), (4, .int v4)]) hx hb dX0_stateOf_1 hl (by decide) rfl (fun ls hl => ?_)
  refine lv_iconst (v := (0 : Int32)) hx hb dX0_stateOf_3 (by decide) ?_
  refine lv_istore (lv' := [(6, .int (0 : Int32)), (5, .int (1 : Int32)), (0, .ref a_t), (1, .int v1), (2, .int v2), (3, .int v3), (4, .int v4)]) hx hb dX0_stateOf_4 hl (by decide) rfl (fun ls hl => ?_)
  have w_6 : ∀ (n : Nat) (v5_6 : Bool) (v6_6 : Int32), mX0_stateOf_b6 s_t_grants s_t_grants_cells v1 v2 v3 v4 n v5_6 v6_6 = some res → ∀ (ls : Array Slot), lv_has ls 7 [(0, .ref a_t), (1, .int v1), (2, .int v2), (3, .int v3), (4, .int v4), (5, .int (b2i v5_6)), (6, .int v6_6)] → W p l e (RM 1 22) s m args below meth c s.heap [] 0 0 Q (F0 m 6 ls []) := by
    intro n
    induction n with
    | zero =>
      intro v5_6 v6_6 hM
      rw [mX0_stateOf_b6] at hM
      cases hM
    | succ n_6 ih_6 =>
      intro v5_6 v6_6 hM ls hl
      rw [mX0_stateOf_b6] at hM
      refine lv_iload hx hb dX0_stateOf_6 (lv_at hl 6 rfl) ?_
      refine lv_aload_n hx hb dX0_stateOf_8 rfl (lv_at hl 0 rfl) ?_
      refine va_get (D := (dC, dI)) (ci := 0) (v := .ref a_t_grants) (C := RX0) (T := TX0) (N := 6) hx hb hU inlX0 hown hE.1 hP 0 rfl rfl 1 (by decide) (hU _ u_3_0) (fun _ h9 => h9) rfl dX0_stateOf_9 ?_
      refine va_get (D := (dC, dI)) (ci := 1) (v := .int s_t_grants.2.2) (C := RX1) (T := TX1) (N := 4) hx hb hU inlX1 hown hE.1 hP 1 rfl rfl 3 (by decide) (hU _ u_12_3) (fun _ h9 => h9) rfl dX0_stateOf_12 ?_
      refine lv_icmp_ge (tgt := 85) hx hb dX0_stateOf_15 (by decide) (fun c15 => ?_) (fun c15 => ?_)
      · have hM := ite_t c15 hM
        refine lv_iload hx hb dX0_stateOf_85 (lv_at hl 5 rfl) ?_
        cases hM
        exact rt _ _ _ dX0_stateOf_87 rfl
      · have hM := ite_f c15 hM
        refine lv_iload hx hb dX0_stateOf_18 (lv_at hl 4 rfl) ?_
        refine lv_iload hx hb dX0_stateOf_20 (lv_at hl 6 rfl) ?_
        obtain ⟨x22, h22, hM⟩ := bind_e hM
        refine rdN (As := [.int v4, .int v6_6]) (rest := []) (st2 := [.int x22]) ⟨hx, hb, hml, hown, hU⟩ hE hE.2.2.2.2.1 (okX3_bit v4 v6_6 x22 h22) kn_X3_bit (hP.sub [] rfl) rfl hl.1 rfl (Nat.le_of_ble_eq_true rfl) ⟨Nat.le_of_ble_eq_true rfl, Nat.le_of_ble_eq_true rfl⟩ dX0_stateOf_22 ⟨Nat.le_refl _, Nat.le_refl _⟩ rfl ?_
        refine lv_iconst (v := (1 : Int32)) hx hb dX0_stateOf_25 (by decide) ?_
        refine lv_icmp_ne (tgt := 79) hx hb dX0_stateOf_26 (by decide) (fun c26 => ?_) (fun c26 => ?_)
        · have hM := ite_f c26 hM
          refine lv_iinc (v := (v6_6 + (1 : Int32))) (lv' := [(6, .int (v6_6 + (1 : Int32))), (0, .ref a_t), (1, .int v1), (2, .int v2), (3, .int v3), (4, .int v4), (5, .int (b2i v5_6))]) hx hb dX0_stateOf_79 hl (k := 6) rfl rfl (by decide) rfl (fun ls hl => ?_)
          refine lv_goto (tgt := 6) hx hb dX0_stateOf_82 (by decide) ?_
          exact ih_6 v5_6 (v6_6 + (1 : Int32)) hM ls (lv_sub hl [1, 2, 3, 4, 5, 6, 0] rfl)
        · have hM := ite_t c26 hM
          refine lv_iload_n hx hb dX0_stateOf_29 rfl (lv_at hl 1 rfl) ?_
          refine lv_aload_n hx hb dX0_stateOf_30 rfl (lv_at hl 0 rfl) ?_
          refine va_get (D := (dC, dI)) (ci := 0) (v := .ref a_t_grants) (C := RX0) (T := TX0) (N := 6) hx hb hU inlX0 hown hE.1 hP 0 rfl rfl 1 (by decide) (hU _ u_3_0) (fun _ h9 => h9) rfl dX0_stateOf_31 ?_
          refine lv_iload hx hb dX0_stateOf_34 (lv_at hl 6 rfl) ?_
          refine lv_iconst (v := (2 : Int32)) hx hb dX0_stateOf_36 (by decide) ?_
          obtain ⟨x37, h37, hM⟩ := bind_e hM
          refine rdV (As := [.int v6_6, .int (2 : Int32)]) (rest := [.int v1]) (st2 := [.int x37, .int v1]) ⟨hx, hb, hml, hown, hU⟩ hE (okX1_at a_t_grants a_t_grants_cells s_t_grants s_t_grants_cells v6_6 (2 : Int32) x37 h37) lk_X0_43 (hP.sub [1, 2] rfl) rfl rfl rfl hl.1 rfl (Nat.le_of_ble_eq_true rfl) ⟨Nat.le_of_ble_eq_true rfl, Nat.le_of_ble_eq_true rfl⟩ dX0_stateOf_37 ⟨Nat.le_refl _, Nat.le_refl _⟩ rfl ?_
          obtain ⟨x40, h40, hM⟩ := bind_e hM
          refine rdN (As := [.int v1, .int x37]) (rest := []) (st2 := [.int (b2i x40)]) ⟨hx, hb, hml, hown, hU⟩ hE hE.2.2.2.2.2.1 (okX3_isWithin v1 x37 x40 h40) kn_X3_isWithin (hP.sub [] rfl) rfl hl.1 rfl (Nat.le_of_ble_eq_true rfl) ⟨Nat.le_of_ble_eq_true rfl, Nat.le_of_ble_eq_true rfl⟩ dX0_stateOf_40 ⟨Nat.le_refl _, Nat.le_refl _⟩ rfl ?_
          refine lv_if_eq (tgt := 79) hx hb dX0_stateOf_43 (by decide) (fun c43 => ?_) (fun c43 => ?_)
          · have hM := ite_f (b2i_eq0 c43) hM
            refine lv_iinc (v := (v6_6 + (1 : Int32))) (lv' := [(6, .int (v6_6 + (1 : Int32))), (0, .ref a_t), (1, .int v1), (2, .int v2), (3, .int v3), (4, .int v4), (5, .int (b2i v5_6))]) hx hb dX0_stateOf_79 hl (k := 6) rfl rfl (by decide) rfl (fun ls hl => ?_)
            refine lv_goto (tgt := 6) hx hb dX0_stateOf_82 (by decide) ?_
            exact ih_6 v5_6 (v6_6 + (1 : Int32)) hM ls (lv_sub hl [1, 2, 3, 4, 5, 6, 0] rfl)
          · have hM := ite_t (b2i_ne0 c43) hM
            refine lv_aload_n hx hb dX0_stateOf_46 rfl (lv_at hl 0 rfl) ?_
            refine va_get (D := (dC, dI)) (ci := 0) (v := .ref a_t_grants) (C := RX0) (T := TX0) (N := 6) hx hb hU inlX0 hown hE.1 hP 0 rfl rfl 1 (by decide) (hU _ u_3_0) (fun _ h9 => h9) rfl dX0_stateOf_47 ?_
            refine lv_iload hx hb dX0_stateOf_50 (lv_at hl 6 rfl) ?_
            refine lv_iconst (v := (3 : Int32)) hx hb dX0_stateOf_52 (by decide) ?_
            obtain ⟨x53, h53, hM⟩ := bind_e hM
            refine rdV (As := [.int v6_6, .int (3 : Int32)]) (rest := []) (st2 := [.int x53]) ⟨hx, hb, hml, hown, hU⟩ hE (okX1_at a_t_grants a_t_grants_cells s_t_grants s_t_grants_cells v6_6 (3 : Int32) x53 h53) lk_X0_43 (hP.sub [1, 2] rfl) rfl rfl rfl hl.1 rfl (Nat.le_of_ble_eq_true rfl) ⟨Nat.le_of_ble_eq_true rfl, Nat.le_of_ble_eq_true rfl⟩ dX0_stateOf_53 ⟨Nat.le_refl _, Nat.le_refl _⟩ rfl ?_
            refine lv_iload_n hx hb dX0_stateOf_56 rfl (lv_at hl 3 rfl) ?_
            refine lv_icmp_ne (tgt := 76) hx hb dX0_stateOf_57 (by decide) (fun c57 => ?_) (fun c57 => ?_)
            · have hM := ite_f c57 hM
              refine lv_iconst (v := (0 : Int32)) hx hb dX0_stateOf_76 (by decide) ?_
              refine lv_istore (lv' := [(5, .int (0 : Int32)), (0, .ref a_t), (1, .int v1), (2, .int v2), (3, .int v3), (4, .int v4), (6, .int v6_6)]) hx hb dX0_stateOf_77 hl (by decide) rfl (fun ls hl => ?_)
              refine lv_iinc (v := (v6_6 + (1 : Int32))) (lv' := [(6, .int (v6_6 + (1 : Int32))), (5, .int (0 : Int32)), (0, .ref a_t), (1, .int v1), (2, .int v2), (3, .int v3), (4, .int v4)]) hx hb dX0_stateOf_79 hl (k := 6) rfl rfl (by decide) rfl (fun ls hl => ?_)
              refine lv_goto (tgt := 6) hx hb dX0_stateOf_82 (by decide) ?_
              exact ih_6 false (v6_6 + (1 : Int32)) hM ls (lv_sub hl [2, 3, 4, 5, 6, 1, 0] rfl)
            · have hM := ite_t c57 hM
              refine lv_aload_n hx hb dX0_stateOf_60 rfl (lv_at hl 0 rfl) ?_
              refine va_get (D := (dC, dI)) (ci := 0) (v := .ref a_t_grants) (C := RX0) (T := TX0) (N := 6) hx hb hU inlX0 hown hE.1 hP 0 rfl rfl 1 (by decide) (hU _ u_3_0) (fun _ h9 => h9) rfl dX0_stateOf_61 ?_
              refine lv_iload hx hb dX0_stateOf_64 (lv_at hl 6 rfl) ?_
              refine lv_iconst (v := (5 : Int32)) hx hb dX0_stateOf_66 (by decide) ?_
              obtain ⟨x67, h67, hM⟩ := bind_e hM
              refine rdV (As := [.int v6_6, .int (5 : Int32)]) (rest := []) (st2 := [.int x67]) ⟨hx, hb, hml, hown, hU⟩ hE (okX1_at a_t_grants a_t_grants_cells s_t_grants s_t_grants_cells v6_6 (5 : Int32) x67 h67) lk_X0_43 (hP.sub [1, 2] rfl) rfl rfl rfl hl.1 rfl (Nat.le_of_ble_eq_true rfl) ⟨Nat.le_of_ble_eq_true rfl, Nat.le_of_ble_eq_true rfl⟩ dX0_stateOf_67 ⟨Nat.le_refl _, Nat.le_refl _⟩ rfl ?_
              refine lv_iload_n hx hb dX0_stateOf_70 rfl (lv_at hl 2 rfl) ?_
              refine lv_icmp_lt (tgt := 76) hx hb dX0_stateOf_71 (by decide) (fun c71 => ?_) (fun c71 => ?_)
              · have hM := ite_t c71 hM
                refine lv_iconst (v := (0 : Int32)) hx hb dX0_stateOf_76 (by decide) ?_
                refine lv_istore (lv' := [(5, .int (0 : Int32)), (0, .ref a_t), (1, .int v1), (2, .int v2), (3, .int v3), (4, .int v4), (6, .int v6_6)]) hx hb dX0_stateOf_77 hl (by decide) rfl (fun ls hl => ?_)
                refine lv_iinc (v := (v6_6 + (1 : Int32))) (lv' := [(6, .int (v6_6 + (1 : Int32))), (5, .int (0 : Int32)), (0, .ref a_t), (1, .int v1), (2, .int v2), (3, .int v3), (4, .int v4)]) hx hb dX0_stateOf_79 hl (k := 6) rfl rfl (by decide) rfl (fun ls hl => ?_)
                refine lv_goto (tgt := 6) hx hb dX0_stateOf_82 (by decide) ?_
                exact ih_6 false (v6_6 + (1 : Int32)) hM ls (lv_sub hl [2, 3, 4, 5, 6, 1, 0] rfl)
              · have hM := ite_f c71 hM
                refine lv_iconst (v := (2 : Int32)) hx hb dX0_stateOf_74 (by decide) ?_
                cases hM
                exact rt _ _ _ dX0_stateOf_75 rfl
  exact w_6 FU true (0 : Int32) hM ls (lv_sub hl [2, 3, 4, 5, 6, 1, 0] rfl)
noncomputable def mX0_agreesWith_b7 (s_t : Int32 × Int32 × Int32) (s_t_papers : Int32 × Int32 × Int32) (s_t_papers_cells : Ar) (s_t_grants : Int32 × Int32 × Int32) (s_t_grants_cells : Ar) (s_q1 : Int32 × Int32 × Int32) (s_q1_cells : Ar) (v2 : Int32) : Nat → Int32 → Option (Bool)
  | 0, _ => none
  | n + 1, v3 => (if s_q1.2.2 ≤ v3 then some (true) else (mX1_at s_q1 s_q1_cells v3 (2 : Int32)).bind (fun x19 => (mX1_at s_q1 s_q1_cells v3 (1 : Int32)).bind (fun x25 => (mX1_at s_q1 s_q1_cells v3 (3 : Int32)).bind (fun x31 => (mX0_stateOf s_t_grants s_t_grants_cells x19 x25 x31 v2).bind (fun x35 => (mX1_at s_q1 s_q1_cells v3 (4 : Int32)).bind (fun x45 => (if x35 = x45 then mX0_agreesWith_b7 s_t s_t_papers s_t_papers_cells s_t_grants s_t_grants_cells s_q1 s_q1_cells v2 n (v3 + (1 : Int32)) else some (false))))))))
noncomputable def mX0_agreesWith (s_t : Int32 × Int32 × Int32) (s_t_papers : Int32 × Int32 × Int32) (s_t_papers_cells : Ar) (s_t_grants : Int32 × Int32 × Int32) (s_t_grants_cells : Ar) (s_q1 : Int32 × Int32 × Int32) (s_q1_cells : Ar) : Option (Bool) := (mX0_countingNow s_t s_t_papers s_t_papers_cells s_t_grants s_t_grants_cells).bind (fun x1 => mX0_agreesWith_b7 s_t s_t_papers s_t_papers_cells s_t_grants s_t_grants_cells s_q1 s_q1_cells x1 FU (0 : Int32))
set_option maxHeartbeats 4000000 in
set_option maxRecDepth 100000 in
theorem okX0_agreesWith {l : Launch} {dC : Nat → ClassId} {dI : Nat → Nat → Nat} {cI cC cZ : ClassId} (a_t a_t_papers a_t_grants a_t_routes a_t_papers_cells a_t_grants_cells a_q1 a_q1_cells : Nat) (s_t : Int32 × Int32 × Int32) (s_t_papers : Int32 × Int32 × Int32) (s_t_papers_cells : Ar) (s_t_grants : Int32 × Int32 × Int32) (s_t_grants_cells : Ar) (s_q1 : Int32 × Int32 × Int32) (s_q1_cells : Ar) (res : Bool) (hM : mX0_agreesWith s_t s_t_papers s_t_papers_cells s_t_grants s_t_grants_cells s_q1 s_q1_cells = some res) : Rd l yX0_agreesWith cX0_agreesWith 5 (some .boolean) 3 66 (dC, dI) cI cC cZ [(a_t, .inr (0, [.ref a_t_papers, .ref a_t_grants, .ref a_t_routes, .int s_t.1, .int s_t.2.1, .int s_t.2.2])), (a_t_papers, .inr (1, [.int s_t_papers.1, .int s_t_papers.2.1, .ref a_t_papers_cells, .int s_t_papers.2.2])), (a_t_papers_cells, .inl (cI, s_t_papers_cells.1, .inl s_t_papers_cells.2)), (a_t_grants, .inr (1, [.int s_t_grants.1, .int s_t_grants.2.1, .ref a_t_grants_cells, .int s_t_grants.2.2])), (a_t_grants_cells, .inl (cI, s_t_grants_cells.1, .inl s_t_grants_cells.2)), (a_q1, .inr (1, [.int s_q1.1, .int s_q1.2.1, .ref a_q1_cells, .int s_q1.2.2])), (a_q1_cells, .inl (cI, s_q1_cells.1, .inl s_q1_cells.2))] [.ref a_t, .ref a_q1] (some (.int (b2i res))) := by
  refine Rd.ofZ (by decide) (Nat.le_of_ble_eq_true rfl) [(0, .ref a_t), (1, .ref a_q1)] rfl ?_
  intro p e s m args below meth c ls Q hx hb hml hown hU hE hP rt hl
  have hown : s.vm.findClass RX0 = some m.cls := hown
  unfold mX0_agreesWith at hM
  refine lv_aload_n hx hb dX0_agreesWith_0 rfl (lv_at hl 0 rfl) ?_
  obtain ⟨x1, h1, hM⟩ := bind_e hM
  refine rdV (As := []) (rest := []) (st2 := [.int x1]) ⟨hx, hb, hml, hown, hU⟩ hE (okX0_countingNow a_t a_t_papers a_t_grants a_t_routes a_t_papers_cells a_t_grants_cells s_t s_t_papers s_t_papers_cells s_t_grants s_t_grants_cells x1 h1) lk_X0_68 (hP.sub [0, 1, 2, 3, 4] rfl) rfl rfl rfl hl.1 rfl (Nat.le_of_ble_eq_true rfl) ⟨Nat.le_of_ble_eq_true rfl, Nat.le_of_ble_eq_true rfl⟩ dX0_agreesWith_1 ⟨Nat.le_refl _, Nat.le_refl _⟩ rfl ?_
  refine lv_istore_n (lv' := [(2, .int x1), (0, .ref a_t), (1, .ref a_q1)]) hx hb dX0_agreesWith_4 rfl hl (by decide) rfl (fun ls hl => ?_)
  refine lv_iconst (v := (0 : Int32)) hx hb dX0_agreesWith_5 (by decide) ?_
  refine lv_istore_n (lv' := [(3, .int (0 : Int32)), (2, .int x1), (0, .ref a_t), (1, .ref a_q1)]) hx hb dX0_agreesWith_6 rfl hl (by decide) rfl (fun ls hl => ?_)
  have w_7 : ∀ (n : Nat) (v3_7 : Int32), mX0_agreesWith_b7 s_t s_t_papers s_t_papers_cells s_t_grants s_t_grants_cells s_q1 s_q1_cells x1 n v3_7 = some res → ∀ (ls : Array Slot), lv_has ls 5 [(0, .ref a_t), (1, .ref a_q1), (2, .int x1), (3, .int v3_7)] → W p l e (RM 3 66) s m args below meth c s.heap [] 0 0 Q (F0 m 7 ls []) := by
    intro n
    induction n with
    | zero =>
      intro v3_7 hM
      rw [mX0_agreesWith_b7] at hM
      cases hM
    | succ n_7 ih_7 =>
      intro v3_7 hM ls hl
      rw [mX0_agreesWith_b7] at hM
      refine lv_iload_n hx hb dX0_agreesWith_7 rfl (lv_at hl 3 rfl) ?_
      refine lv_aload_n hx hb dX0_agreesWith_8 rfl (lv_at hl 1 rfl) ?_
      refine va_get (D := (dC, dI)) (ci := 1) (v := .int s_q1.2.2) (C := RX1) (T := TX1) (N := 4) hx hb hU inlX1 hown hE.1 hP 5 rfl rfl 3 (by decide) (hU _ u_12_3) (fun _ h9 => h9) rfl dX0_agreesWith_9 ?_
      refine lv_icmp_ge (tgt := 59) hx hb dX0_agreesWith_12 (by decide) (fun c12 => ?_) (fun c12 => ?_)
      · have hM := ite_t c12 hM
        refine lv_iconst (v := (1 : Int32)) hx hb dX0_agreesWith_59 (by decide) ?_
        cases hM
        exact rt true _ _ dX0_agreesWith_60 rfl
      · have hM := ite_f c12 hM
        refine lv_aload_n hx hb dX0_agreesWith_15 rfl (lv_at hl 0 rfl) ?_
        refine lv_aload_n hx hb dX0_agreesWith_16 rfl (lv_at hl 1 rfl) ?_
        refine lv_iload_n hx hb dX0_agreesWith_17 rfl (lv_at hl 3 rfl) ?_
        refine lv_iconst (v := (2 : Int32)) hx hb dX0_agreesWith_18 (by decide) ?_
        obtain ⟨x19, h19, hM⟩ := bind_e hM
        refine rdV (As := [.int v3_7, .int (2 : Int32)]) (rest := [.ref a_t]) (st2 := [.int x19, .ref a_t]) ⟨hx, hb, hml, hown, hU⟩ hE (okX1_at a_q1 a_q1_cells s_q1 s_q1_cells v3_7 (2 : Int32) x19 h19) lk_X0_43 (hP.sub [5, 6] rfl) rfl rfl rfl hl.1 rfl (Nat.le_of_ble_eq_true rfl) ⟨Nat.le_of_ble_eq_true rfl, Nat.le_of_ble_eq_true rfl⟩ dX0_agreesWith_19 ⟨Nat.le_refl _, Nat.le_refl _⟩ rfl ?_
        refine lv_aload_n hx hb dX0_agreesWith_22 rfl (lv_at hl 1 rfl) ?_
        refine lv_iload_n hx hb dX0_agreesWith_23 rfl (lv_at hl 3 rfl) ?_
        refine lv_iconst (v := (1 : Int32)) hx hb dX0_agreesWith_24 (by decide) ?_
        obtain ⟨x25, h25, hM⟩ := bind_e hM
        refine rdV (As := [.int v3_7, .int (1 : Int32)]) (rest := [.int x19, .ref a_t]) (st2 := [.int x25, .int x19, .ref a_t]) ⟨hx, hb, hml, hown, hU⟩ hE (okX1_at a_q1 a_q1_cells s_q1 s_q1_cells v3_7 (1 : Int32) x25 h25) lk_X0_43 (hP.sub [5, 6] rfl) rfl rfl rfl hl.1 rfl (Nat.le_of_ble_eq_true rfl) ⟨Nat.le_of_ble_eq_true rfl, Nat.le_of_ble_eq_true rfl⟩ dX0_agreesWith_25 ⟨Nat.le_refl _, Nat.le_refl _⟩ rfl ?_
        refine lv_aload_n hx hb dX0_agreesWith_28 rfl (lv_at hl 1 rfl) ?_
        refine lv_iload_n hx hb dX0_agreesWith_29 rfl (lv_at hl 3 rfl) ?_
        refine lv_iconst (v := (3 : Int32)) hx hb dX0_agreesWith_30 (by decide) ?_
        obtain ⟨x31, h31, hM⟩ := bind_e hM
        refine rdV (As := [.int v3_7, .int (3 : Int32)]) (rest := [.int x25, .int x19, .ref a_t]) (st2 := [.int x31, .int x25, .int x19, .ref a_t]) ⟨hx, hb, hml, hown, hU⟩ hE (okX1_at a_q1 a_q1_cells s_q1 s_q1_cells v3_7 (3 : Int32) x31 h31) lk_X0_43 (hP.sub [5, 6] rfl) rfl rfl rfl hl.1 rfl (Nat.le_of_ble_eq_true rfl) ⟨Nat.le_of_ble_eq_true rfl, Nat.le_of_ble_eq_true rfl⟩ dX0_agreesWith_31 ⟨Nat.le_refl _, Nat.le_refl _⟩ rfl ?_
        refine lv_iload_n hx hb dX0_agreesWith_34 rfl (lv_at hl 2 rfl) ?_
        obtain ⟨x35, h35, hM⟩ := bind_e hM
        refine rdV (As := [.int x19, .int x25, .int x31, .int x1]) (rest := []) (st2 := [.int x35]) ⟨hx, hb, hml, hown, hU⟩ hE (okX0_stateOf a_t a_t_papers a_t_grants a_t_routes a_t_grants_cells s_t s_t_grants s_t_grants_cells x19 x25 x31 x1 x35 h35) lk_X0_61 (hP.sub [0, 3, 4] rfl) rfl rfl rfl hl.1 rfl (Nat.le_of_ble_eq_true rfl) ⟨Nat.le_of_ble_eq_true rfl, Nat.le_of_ble_eq_true rfl⟩ dX0_agreesWith_35 ⟨Nat.le_refl _, Nat.le_refl _⟩ rfl ?_
        refine lv_istore (lv' := [(4, .int x35), (0, .ref a_t), (1, .ref a_q1), (2, .int x1), (3, .int v3_7)]) hx hb dX0_agreesWith_38 hl (by decide) rfl (fun ls hl => ?_)
        refine lv_iload hx hb dX0_agreesWith_40 (lv_at hl 0 rfl) ?_
        refine lv_aload_n hx hb dX0_agreesWith_42 rfl (lv_at hl 2 rfl) ?_
        refine lv_iload_n hx hb dX0_agreesWith_43 rfl (lv_at hl 4 rfl) ?_
        refine lv_iconst (v := (4 : Int32)) hx hb dX0_agreesWith_44 (by decide) ?_
        obtain ⟨x45, h45, hM⟩ := bind_e hM
        refine rdV (As := [.int v3_7, .int (4 : Int32)]) (rest := [.int x35]) (st2 := [.int x45, .int x35]) ⟨hx, hb, hml, hown, hU⟩ hE (okX1_at a_q1 a_q1_cells s_q1 s_q1_cells v3_7 (4 : Int32) x45 h45) lk_X0_43 (hP.sub [5, 6] rfl) rfl rfl rfl hl.1 rfl (Nat.le_of_ble_eq_true rfl) ⟨Nat.le_of_ble_eq_true rfl, Nat.le_of_ble_eq_true rfl⟩ dX0_agreesWith_45 ⟨Nat.le_refl _, Nat.le_refl _⟩ rfl ?_
        refine lv_icmp_eq (tgt := 53) hx hb dX0_agreesWith_48 (by decide) (fun c48 => ?_) (fun c48 => ?_)
        · have hM := ite_t c48 hM
          refine lv_iinc (v := (v3_7 + (1 : Int32))) (lv' := [(3, .int (v3_7 + (1 : Int32))), (4, .int x35), (0, .ref a_t), (1, .ref a_q1), (2, .int x1)]) hx hb dX0_agreesWith_53 hl (k := 4) rfl rfl (by decide) rfl (fun ls hl => ?_)
          refine lv_goto (tgt := 7) hx hb dX0_agreesWith_56 (by decide) ?_
          exact ih_7 (v3_7 + (1 : Int32)) hM ls (lv_sub hl [2, 3, 4, 0] rfl)
        · have hM := ite_f c48 hM
          refine lv_iconst (v := (0 : Int32)) hx hb dX0_agreesWith_51 (by decide) ?_
          cases hM
          exact rt false _ _ dX0_agreesWith_52 rfl
  exact w_7 FU (0 : Int32) hM ls (lv_sub hl [2, 3, 1, 0] rfl)
noncomputable def mX0_apartFrom_b52 (s_t_routes : Int32 × Int32 × Int32) (s_t_routes_cells : Ar) (v2 : Int32) (v3 : Int32) : Nat → Int32 → Int32 → Option (Int32)
  | 0, _, _ => none
  | n + 1, v4, v5 => (if s_t_routes.2.2 ≤ v5 then some (v4) else (mX3_bit v2 v5).bind (fun x67 => (if x67 = (1 : Int32) then (mX1_at s_t_routes s_t_routes_cells v5 (2 : Int32)).bind (fun x81 => (if (x81 &&& v3) = 0 then bnd (v4 ||| ((1 : Int32) <<< (v5 &&& 31))) (fun z96 => mX0_apartFrom_b52 s_t_routes s_t_routes_cells v2 v3 n z96 (v5 + (1 : Int32))) else mX0_apartFrom_b52 s_t_routes s_t_routes_cells v2 v3 n v4 (v5 + (1 : Int32)))) else mX0_apartFrom_b52 s_t_routes s_t_routes_cells v2 v3 n v4 (v5 + (1 : Int32)))))
noncomputable def mX0_apartFrom_b5 (s_t_routes : Int32 × Int32 × Int32) (s_t_routes_cells : Ar) (v1 : Int32) (v2 : Int32) : Nat → Int32 → Int32 → Option (Int32)
  | 0, _, _ => none
  | n + 1, v3, v4 => (if s_t_routes.2.2 ≤ v4 then mX0_apartFrom_b52 s_t_routes s_t_routes_cells v2 v3 FU (0 : Int32) (0 : Int32) else (mX3_bit v1 v4).bind (fun x20 => (if x20 = (1 : Int32) then (mX1_at s_t_routes s_t_routes_cells v4 (2 : Int32)).bind (fun x35 => mX0_apartFrom_b5 s_t_routes s_t_routes_cells v1 v2 n (v3 ||| x35) (v4 + (1 : Int32))) else mX0_apartFrom_b5 s_t_routes s_t_routes_cells v1 v2 n v3 (v4 + (1 : Int32)))))
noncomputable def mX0_apartFrom (s_t_routes : Int32 × Int32 × Int32) (s_t_routes_cells : Ar) (v1 : Int32) (v2 : Int32) : Option (Int32) := mX0_apartFrom_b5 s_t_routes s_t_routes_cells v1 v2 FU (0 : Int32) (0 : Int32)
set_option maxHeartbeats 4000000 in
set_option maxRecDepth 100000 in
theorem okX0_apartFrom {l : Launch} {dC : Nat → ClassId} {dI : Nat → Nat → Nat} {cI cC cZ : ClassId} (a_t a_t_papers a_t_grants a_t_routes a_t_routes_cells : Nat) (s_t : Int32 × Int32 × Int32) (s_t_routes : Int32 × Int32 × Int32) (s_t_routes_cells : Ar) (v1 : Int32) (v2 : Int32) (res : Int32) (hM : mX0_apartFrom s_t_routes s_t_routes_cells v1 v2 = some res) : Rd l yX0_apartFrom cX0_apartFrom 6 (some .int) 1 22 (dC, dI) cI cC cZ [(a_t, .inr (0, [.ref a_t_papers, .ref a_t_grants, .ref a_t_routes, .int s_t.1, .int s_t.2.1, .int s_t.2.2])), (a_t_routes, .inr (1, [.int s_t_routes.1, .int s_t_routes.2.1, .ref a_t_routes_cells, .int s_t_routes.2.2])), (a_t_routes_cells, .inl (cI, s_t_routes_cells.1, .inl s_t_routes_cells.2))] [.ref a_t, .int v1, .int v2] (some (.int res)) := by
  refine Rd.ofI (by decide) (Nat.le_of_ble_eq_true rfl) [(0, .ref a_t), (1, .int v1), (2, .int v2)] rfl ?_
  intro p e s m args below meth c ls Q hx hb hml hown hU hE hP rt hl
  have hown : s.vm.findClass RX0 = some m.cls := hown
  unfold mX0_apartFrom at hM
  refine lv_iconst (v := (0 : Int32)) hx hb dX0_apartFrom_0 (by decide) ?_
  refine lv_istore_n (lv' := [(3, .int (0 : Int32)), (0, .ref a_t), (1, .int v1), (2, .int v2)]) hx hb dX0_apartFrom_1 rfl hl (by decide) rfl (fun ls hl => ?_)
  refine lv_iconst (v := (0 : Int32)) hx hb dX0_apartFrom_2 (by decide) ?_
  refine lv_istore (lv' := [(4, .int (0 : Int32)), (3, .int (0 : Int32)), (0, .ref a_t), (1, .int v1), (2, .int v2)]) hx hb dX0_apartFrom_3 hl (by decide) rfl (fun ls hl => ?_)
  have w_5 : ∀ (n : Nat) (v3_5 : Int32) (v4_5 : Int32), mX0_apartFrom_b5 s_t_routes s_t_routes_cells v1 v2 n v3_5 v4_5 = some res → ∀ (ls : Array Slot), lv_has ls 6 [(0, .ref a_t), (1, .int v1), (2, .int v2), (3, .int v3_5), (4, .int v4_5)] → W p l e (RM 1 22) s m args below meth c s.heap [] 0 0 Q (F0 m 5 ls []) := by
    intro n
    induction n with
    | zero =>
      intro v3_5 v4_5 hM
      rw [mX0_apartFrom_b5] at hM
      cases hM
    | succ n_5 ih_5 =>
      intro v3_5 v4_5 hM ls hl
      rw [mX0_apartFrom_b5] at hM
      refine lv_iload hx hb dX0_apartFrom_5 (lv_at hl 4 rfl) ?_
      refine lv_aload_n hx hb dX0_apartFrom_7 rfl (lv_at hl 0 rfl) ?_
      refine va_get (D := (dC, dI)) (ci := 0) (v := .ref a_t_routes) (C := RX0) (T := TX0) (N := 6) hx hb hU inlX0 hown hE.1 hP 0 rfl rfl 2 (by decide) (hU _ u_3_1) (fun _ h9 => h9) rfl dX0_apartFrom_8 ?_
      refine va_get (D := (dC, dI)) (ci := 1) (v := .int s_t_routes.2.2) (C := RX1) (T := TX1) (N := 4) hx hb hU inlX1 hown hE.1 hP 1 rfl rfl 3 (by decide) (hU _ u_12_3) (fun _ h9 => h9) rfl dX0_apartFrom_11 ?_
      refine lv_icmp_ge (tgt := 46) hx hb dX0_apartFrom_14 (by decide) (fun c14 => ?_) (fun c14 => ?_)
      · have hM := ite_t c14 hM
        refine lv_iconst (v := (0 : Int32)) hx hb dX0_apartFrom_46 (by decide) ?_
        refine lv_istore (lv' := [(4, .int (0 : Int32)), (0, .ref a_t), (1, .int v1), (2, .int v2), (3, .int v3_5)]) hx hb dX0_apartFrom_47 hl (by decide) rfl (fun ls hl => ?_)
        refine lv_iconst (v := (0 : Int32)) hx hb dX0_apartFrom_49 (by decide) ?_
        refine lv_istore (lv' := [(5, .int (0 : Int32)), (4, .int (0 : Int32)), (0, .ref a_t), (1, .int v1), (2, .int v2), (3, .int v3_5)]) hx hb dX0_apartFrom_50 hl (by decide) rfl (fun ls hl => ?_)
        have w_52 : ∀ (n : Nat) (v4_52 : Int32) (v5_52 : Int32), mX0_apartFrom_b52 s_t_routes s_t_routes_cells v2 v3_5 n v4_52 v5_52 = some res → ∀ (ls : Array Slot), lv_has ls 6 [(0, .ref a_t), (2, .int v2), (3, .int v3_5), (4, .int v4_52), (5, .int v5_52)] → W p l e (RM 1 22) s m args below meth c s.heap [] 0 0 Q (F0 m 52 ls []) := by
          intro n
          induction n with
          | zero =>
            intro v4_52 v5_52 hM
            rw [mX0_apartFrom_b52] at hM
            cases hM
          | succ n_52 ih_52 =>
            intro v4_52 v5_52 hM ls hl
            rw [mX0_apartFrom_b52] at hM
            refine lv_iload hx hb dX0_apartFrom_52 (lv_at hl 4 rfl) ?_
            refine lv_aload_n hx hb dX0_apartFrom_54 rfl (lv_at hl 0 rfl) ?_
            refine va_get (D := (dC, dI)) (ci := 0) (v := .ref a_t_routes) (C := RX0) (T := TX0) (N := 6) hx hb hU inlX0 hown hE.1 hP 0 rfl rfl 2 (by decide) (hU _ u_3_1) (fun _ h9 => h9) rfl dX0_apartFrom_55 ?_
            refine va_get (D := (dC, dI)) (ci := 1) (v := .int s_t_routes.2.2) (C := RX1) (T := TX1) (N := 4) hx hb hU inlX1 hown hE.1 hP 1 rfl rfl 3 (by decide) (hU _ u_12_3) (fun _ h9 => h9) rfl dX0_apartFrom_58 ?_
            refine lv_icmp_ge (tgt := 104) hx hb dX0_apartFrom_61 (by decide) (fun c61 => ?_) (fun c61 => ?_)
            · have hM := ite_t c61 hM
              refine lv_iload hx hb dX0_apartFrom_104 (lv_at hl 3 rfl) ?_
              cases hM
              exact rt _ _ _ dX0_apartFrom_106 rfl
            · have hM := ite_f c61 hM
              refine lv_iload_n hx hb dX0_apartFrom_64 rfl (lv_at hl 1 rfl) ?_
              refine lv_iload hx hb dX0_apartFrom_65 (lv_at hl 4 rfl) ?_
              obtain ⟨x67, h67, hM⟩ := bind_e hM
              refine rdN (As := [.int v2, .int v5_52]) (rest := []) (st2 := [.int x67]) ⟨hx, hb, hml, hown, hU⟩ hE hE.2.2.2.2.1 (okX3_bit v2 v5_52 x67 h67) kn_X3_bit (hP.sub [] rfl) rfl hl.1 rfl (Nat.le_of_ble_eq_true rfl) ⟨Nat.le_of_ble_eq_true rfl, Nat.le_of_ble_eq_true rfl⟩ dX0_apartFrom_67 ⟨Nat.le_refl _, Nat.le_refl _⟩ rfl ?_
              refine lv_iconst (v := (1 : Int32)) hx hb dX0_apartFrom_70 (by decide) ?_
              refine lv_icmp_ne (tgt := 98) hx hb dX0_apartFrom_71 (by decide) (fun c71 => ?_) (fun c71 => ?_)
              · have hM := ite_f c71 hM
                refine lv_iinc (v := (v5_52 + (1 : Int32))) (lv' := [(5, .int (v5_52 + (1 : Int32))), (0, .ref a_t), (2, .int v2), (3, .int v3_5), (4, .int v4_52)]) hx hb dX0_apartFrom_98 hl (k := 4) rfl rfl (by decide) rfl (fun ls hl => ?_)
                refine lv_goto (tgt := 52) hx hb dX0_apartFrom_101 (by decide) ?_
                exact ih_52 v4_52 (v5_52 + (1 : Int32)) hM ls (lv_sub hl [1, 2, 3, 4, 0] rfl)
              · have hM := ite_t c71 hM
                refine lv_aload_n hx hb dX0_apartFrom_74 rfl (lv_at hl 0 rfl) ?_
                refine va_get (D := (dC, dI)) (ci := 0) (v := .ref a_t_routes) (C := RX0) (T := TX0) (N := 6) hx hb hU inlX0 hown hE.1 hP 0 rfl rfl 2 (by decide) (hU _ u_3_1) (fun _ h9 => h9) rfl dX0_apartFrom_75 ?_
                refine lv_iload hx hb dX0_apartFrom_78 (lv_at hl 4 rfl) ?_
                refine lv_iconst (v := (2 : Int32)) hx hb dX0_apartFrom_80 (by decide) ?_
                obtain ⟨x81, h81, hM⟩ := bind_e hM
                refine rdV (As := [.int v5_52, .int (2 : Int32)]) (rest := []) (st2 := [.int x81]) ⟨hx, hb, hml, hown, hU⟩ hE (okX1_at a_t_routes a_t_routes_cells s_t_routes s_t_routes_cells v5_52 (2 : Int32) x81 h81) lk_X0_43 (hP.sub [1, 2] rfl) rfl rfl rfl hl.1 rfl (Nat.le_of_ble_eq_true rfl) ⟨Nat.le_of_ble_eq_true rfl, Nat.le_of_ble_eq_true rfl⟩ dX0_apartFrom_81 ⟨Nat.le_refl _, Nat.le_refl _⟩ rfl ?_
                refine lv_iload_n hx hb dX0_apartFrom_84 rfl (lv_at hl 2 rfl) ?_
                refine lv_iand hx hb dX0_apartFrom_85 ?_
                refine lv_if_ne (tgt := 98) hx hb dX0_apartFrom_86 (by decide) (fun c86 => ?_) (fun c86 => ?_)
                · have hM := ite_f c86 hM
                  refine lv_iinc (v := (v5_52 + (1 : Int32))) (lv' := [(5, .int (v5_52 + (1 : Int32))), (0, .ref a_t), (2, .int v2), (3, .int v3_5), (4, .int v4_52)]) hx hb dX0_apartFrom_98 hl (k := 4) rfl rfl (by decide) rfl (fun ls hl => ?_)
                  refine lv_goto (tgt := 52) hx hb dX0_apartFrom_101 (by decide) ?_
                  exact ih_52 v4_52 (v5_52 + (1 : Int32)) hM ls (lv_sub hl [1, 2, 3, 4, 0] rfl)
                · have hM := ite_t c86 hM
                  refine lv_iload hx hb dX0_apartFrom_89 (lv_at hl 3 rfl) ?_
                  refine lv_iconst (v := (1 : Int32)) hx hb dX0_apartFrom_91 (by decide) ?_
                  refine lv_iload hx hb dX0_apartFrom_92 (lv_at hl 4 rfl) ?_
                  refine lv_ishl hx hb dX0_apartFrom_94 ?_
                  refine lv_ior hx hb dX0_apartFrom_95 ?_
                  obtain ⟨z96, ez96, hM⟩ := bnd_e hM
                  rw [← ez96]
                  refine lv_istore (lv' := [(4, .int z96), (0, .ref a_t), (2, .int v2), (3, .int v3_5), (5, .int v5_52)]) hx hb dX0_apartFrom_96 hl (by decide) rfl (fun ls hl => ?_)
                  refine lv_iinc (v := (v5_52 + (1 : Int32))) (lv' := [(5, .int (v5_52 + (1 : Int32))), (4, .int z96), (0, .ref a_t), (2, .int v2), (3, .int v3_5)]) hx hb dX0_apartFrom_98 hl (k := 4) rfl rfl (by decide) rfl (fun ls hl => ?_)
                  refine lv_goto (tgt := 52) hx hb dX0_apartFrom_101 (by decide) ?_
                  exact ih_52 z96 (v5_52 + (1 : Int32)) hM ls (lv_sub hl [2, 3, 4, 1, 0] rfl)
        exact w_52 FU (0 : Int32) (0 : Int32) hM ls (lv_sub hl [2, 4, 5, 1, 0] rfl)
      · have hM := ite_f c14 hM
        refine lv_iload_n hx hb dX0_apartFrom_17 rfl (lv_at hl 1 rfl) ?_
        refine lv_iload hx hb dX0_apartFrom_18 (lv_at hl 4 rfl) ?_
        obtain ⟨x20, h20, hM⟩ := bind_e hM
        refine rdN (As := [.int v1, .int v4_5]) (rest := []) (st2 := [.int x20]) ⟨hx, hb, hml, hown, hU⟩ hE hE.2.2.2.2.1 (okX3_bit v1 v4_5 x20 h20) kn_X3_bit (hP.sub [] rfl) rfl hl.1 rfl (Nat.le_of_ble_eq_true rfl) ⟨Nat.le_of_ble_eq_true rfl, Nat.le_of_ble_eq_true rfl⟩ dX0_apartFrom_20 ⟨Nat.le_refl _, Nat.le_refl _⟩ rfl ?_
        refine lv_iconst (v := (1 : Int32)) hx hb dX0_apartFrom_23 (by decide) ?_
        refine lv_icmp_ne (tgt := 40) hx hb dX0_apartFrom_24 (by decide) (fun c24 => ?_) (fun c24 => ?_)
        · have hM := ite_f c24 hM
          refine lv_iinc (v := (v4_5 + (1 : Int32))) (lv' := [(4, .int (v4_5 + (1 : Int32))), (0, .ref a_t), (1, .int v1), (2, .int v2), (3, .int v3_5)]) hx hb dX0_apartFrom_40 hl (k := 4) rfl rfl (by decide) rfl (fun ls hl => ?_)
          refine lv_goto (tgt := 5) hx hb dX0_apartFrom_43 (by decide) ?_
          exact ih_5 v3_5 (v4_5 + (1 : Int32)) hM ls (lv_sub hl [1, 2, 3, 4, 0] rfl)
        · have hM := ite_t c24 hM
          refine lv_iload_n hx hb dX0_apartFrom_27 rfl (lv_at hl 3 rfl) ?_
          refine lv_aload_n hx hb dX0_apartFrom_28 rfl (lv_at hl 0 rfl) ?_
          refine va_get (D := (dC, dI)) (ci := 0) (v := .ref a_t_routes) (C := RX0) (T := TX0) (N := 6) hx hb hU inlX0 hown hE.1 hP 0 rfl rfl 2 (by decide) (hU _ u_3_1) (fun _ h9 => h9) rfl dX0_apartFrom_29 ?_
          refine lv_iload hx hb dX0_apartFrom_32 (lv_at hl 4 rfl) ?_
          refine lv_iconst (v := (2 : Int32)) hx hb dX0_apartFrom_34 (by decide) ?_
          obtain ⟨x35, h35, hM⟩ := bind_e hM
          refine rdV (As := [.int v4_5, .int (2 : Int32)]) (rest := [.int v3_5]) (st2 := [.int x35, .int v3_5]) ⟨hx, hb, hml, hown, hU⟩ hE (okX1_at a_t_routes a_t_routes_cells s_t_routes s_t_routes_cells v4_5 (2 : Int32) x35 h35) lk_X0_43 (hP.sub [1, 2] rfl) rfl rfl rfl hl.1 rfl (Nat.le_of_ble_eq_true rfl) ⟨Nat.le_of_ble_eq_true rfl, Nat.le_of_ble_eq_true rfl⟩ dX0_apartFrom_35 ⟨Nat.le_refl _, Nat.le_refl _⟩ rfl ?_
          refine lv_ior hx hb dX0_apartFrom_38 ?_
          refine lv_istore_n (lv' := [(3, .int (v3_5 ||| x35)), (0, .ref a_t), (1, .int v1), (2, .int v2), (4, .int v4_5)]) hx hb dX0_apartFrom_39 rfl hl (by decide) rfl (fun ls hl => ?_)
          refine lv_iinc (v := (v4_5 + (1 : Int32))) (lv' := [(4, .int (v4_5 + (1 : Int32))), (3, .int (v3_5 ||| x35)), (0, .ref a_t), (1, .int v1), (2, .int v2)]) hx hb dX0_apartFrom_40 hl (k := 4) rfl rfl (by decide) rfl (fun ls hl => ?_)
          refine lv_goto (tgt := 5) hx hb dX0_apartFrom_43 (by decide) ?_
          exact ih_5 (v3_5 ||| x35) (v4_5 + (1 : Int32)) hM ls (lv_sub hl [2, 3, 4, 1, 0] rfl)
  exact w_5 FU (0 : Int32) (0 : Int32) hM ls (lv_sub hl [2, 3, 4, 1, 0] rfl)
noncomputable def mX0_bare_b9 (s_t : Int32 × Int32 × Int32) (s_t_papers : Int32 × Int32 × Int32) (s_t_papers_cells : Ar) (s_t_grants : Int32 × Int32 × Int32) (s_t_grants_cells : Ar) (v1 : Int32) : Nat → Int32 → Int32 → Option (Int32)
  | 0, _, _ => none
  | n + 1, v2, v3 => (if s_t_grants.2.2 ≤ v3 then (mJ6_bitCount_0f7a4 (v2 ^^^ (-1 : Int32))).bind (fun x50 => some (x50)) else (mX3_bit v1 v3).bind (fun x22 => (if x22 = (1 : Int32) then (mX1_at s_t_grants s_t_grants_cells v3 (2 : Int32)).bind (fun x36 => mX0_bare_b9 s_t s_t_papers s_t_papers_cells s_t_grants s_t_grants_cells v1 n (v2 ||| x36) (v3 + (1 : Int32))) else mX0_bare_b9 s_t s_t_papers s_t_papers_cells s_t_grants s_t_grants_cells v1 n v2 (v3 + (1 : Int32)))))
noncomputable def mX0_bare (s_t : Int32 × Int32 × Int32) (s_t_papers : Int32 × Int32 × Int32) (s_t_papers_cells : Ar) (s_t_grants : Int32 × Int32 × Int32) (s_t_grants_cells : Ar) : Option (Int32) := (mX0_countingNow s_t s_t_papers s_t_papers_cells s_t_grants s_t_grants_cells).bind (fun x1 => mX0_bare_b9 s_t s_t_papers s_t_papers_cells s_t_grants s_t_grants_cells x1 FU (0 : Int32) (0 : Int32))
set_option maxHeartbeats 4000000 in
set_option maxRecDepth 100000 in
theorem okX0_bare {l : Launch} {dC : Nat → ClassId} {dI : Nat → Nat → Nat} {cI cC cZ : ClassId} (a_t a_t_papers a_t_grants a_t_routes a_t_papers_cells a_t_grants_cells : Nat) (s_t : Int32 × Int32 × Int32) (s_t_papers : Int32 × Int32 × Int32) (s_t_papers_cells : Ar) (s_t_grants : Int32 × Int32 × Int32) (s_t_grants_cells : Ar) (res : Int32) (hM : mX0_bare s_t s_t_papers s_t_papers_cells s_t_grants s_t_grants_cells = some res) : Rd l yX0_bare cX0_bare 4 (some .int) 3 66 (dC, dI) cI cC cZ [(a_t, .inr (0, [.ref a_t_papers, .ref a_t_grants, .ref a_t_routes, .int s_t.1, .int s_t.2.1, .int s_t.2.2])), (a_t_papers, .inr (1, [.int s_t_papers.1, .int s_t_papers.2.1, .ref a_t_papers_cells, .int s_t_papers.2.2])), (a_t_papers_cells, .inl (cI, s_t_papers_cells.1, .inl s_t_papers_cells.2)), (a_t_grants, .inr (1, [.int s_t_grants.1, .int s_t_grants.2.1, .ref a_t_grants_cells, .int s_t_grants.2.2])), (a_t_grants_cells, .inl (cI, s_t_grants_cells.1, .inl s_t_grants_cells.2))] [.ref a_t] (some (.int res)) := by
  refine Rd.ofI (by decide) (Nat.le_of_ble_eq_true rfl) [(0, .ref a_t)] rfl ?_
  intro p e s m args below meth c ls Q hx hb hml hown hU hE hP rt hl
  have hown : s.vm.findClass RX0 = some m.cls := hown
  unfold mX0_bare at hM
  refine lv_aload_n hx hb dX0_bare_0 rfl (lv_at hl 0 rfl) ?_
  obtain ⟨x1, h1, hM⟩ := bind_e hM
  refine rdV (As := []) (rest := []) (st2 := [.int x1]) ⟨hx, hb, hml, hown, hU⟩ hE (okX0_countingNow a_t a_t_papers a_t_grants a_t_routes a_t_papers_cells a_t_grants_cells s_t s_t_papers s_t_papers_cells s_t_grants s_t_grants_cells x1 h1) lk_X0_68 (hP.sub [0, 1, 2, 3, 4] rfl) rfl rfl rfl hl.1 rfl (Nat.le_of_ble_eq_true rfl) ⟨Nat.le_of_ble_eq_true rfl, Nat.le_of_ble_eq_true rfl⟩ dX0_bare_1 ⟨Nat.le_refl _, Nat.le_refl _⟩ rfl ?_
  refine lv_istore_n (lv' := [(1, .int x1), (0, .ref a_t)]) hx hb dX0_bare_4 rfl hl (by decide) rfl (fun ls hl => ?_)
  refine lv_iconst (v := (0 : Int32)) hx hb dX0_bare_5 (by decide) ?_
  refine lv_istore_n (lv' := [(2, .int (0 : Int32)), (1, .int x1), (0, .ref a_t)]) hx hb dX0_bare_6 rfl hl (by decide) rfl (fun ls hl => ?_)
  refine lv_iconst (v := (0 : Int32)) hx hb dX0_bare_7 (by decide) ?_
  refine lv_istore_n (lv' := [(3, .int (0 : Int32)), (2, .int (0 : Int32)), (1, .int x1), (0, .ref a_t)]) hx hb dX0_bare_8 rfl hl (by decide) rfl (fun ls hl => ?_)
  have w_9 : ∀ (n : Nat) (v2_9 : Int32) (v3_9 : Int32), mX0_bare_b9 s_t s_t_papers s_t_papers_cells s_t_grants s_t_grants_cells x1 n v2_9 v3_9 = some res → ∀ (ls : Array Slot), lv_has ls 4 [(0, .ref a_t), (1, .int x1), (2, .int v2_9), (3, .int v3_9)] → W p l e (RM 3 66) s m args below meth c s.heap [] 0 0 Q (F0 m 9 ls []) := by
    intro n
    induction n with
    | zero =>
      intro v2_9 v3_9 hM
      rw [mX0_bare_b9] at hM
      cases hM
    | succ n_9 ih_9 =>
      intro v2_9 v3_9 hM ls hl
      rw [mX0_bare_b9] at hM
      refine lv_iload_n hx hb dX0_bare_9 rfl (lv_at hl 3 rfl) ?_
      refine lv_aload_n hx hb dX0_bare_10 rfl (lv_at hl 0 rfl) ?_
      refine va_get (D := (dC, dI)) (ci := 0) (v := .ref a_t_grants) (C := RX0) (T := TX0) (N := 6) hx hb hU inlX0 hown hE.1 hP 0 rfl rfl 1 (by decide) (hU _ u_3_0) (fun _ h9 => h9) rfl dX0_bare_11 ?_
      refine va_get (D := (dC, dI)) (ci := 1) (v := .int s_t_grants.2.2) (C := RX1) (T := TX1) (N := 4) hx hb hU inlX1 hown hE.1 hP 3 rfl rfl 3 (by decide) (hU _ u_12_3) (fun _ h9 => h9) rfl dX0_bare_14 ?_
      refine lv_icmp_ge (tgt := 47) hx hb dX0_bare_17 (by decide) (fun c17 => ?_) (fun c17 => ?_)
      · have hM := ite_t c17 hM
        refine lv_iload_n hx hb dX0_bare_47 rfl (lv_at hl 2 rfl) ?_
        refine lv_iconst (v := (-1 : Int32)) hx hb dX0_bare_48 (by decide) ?_
        refine lv_ixor hx hb dX0_bare_49 ?_
        obtain ⟨x50, h50, hM⟩ := bind_e hM
        refine rdS (As := [.int (v2_9 ^^^ (-1 : Int32))]) (rest := []) (st2 := [.int x50]) ⟨hx, hb, hml, hown, hU⟩ hE (okJ6_bitCount_0f7a4 (v2_9 ^^^ (-1 : Int32)) x50 h50) lk_X0_72 (hP.sub [] rfl) rfl hl.1 rfl (Nat.le_of_ble_eq_true rfl) ⟨Nat.le_of_ble_eq_true rfl, Nat.le_of_ble_eq_true rfl⟩ dX0_bare_50 ⟨Nat.le_refl _, Nat.le_refl _⟩ rfl ?_
        cases hM
        exact rt _ _ _ dX0_bare_53 rfl
      · have hM := ite_f c17 hM
        refine lv_iload_n hx hb dX0_bare_20 rfl (lv_at hl 1 rfl) ?_
        refine lv_iload_n hx hb dX0_bare_21 rfl (lv_at hl 3 rfl) ?_
        obtain ⟨x22, h22, hM⟩ := bind_e hM
        refine rdN (As := [.int x1, .int v3_9]) (rest := []) (st2 := [.int x22]) ⟨hx, hb, hml, hown, hU⟩ hE hE.2.2.2.2.1 (okX3_bit x1 v3_9 x22 h22) kn_X3_bit (hP.sub [] rfl) rfl hl.1 rfl (Nat.le_of_ble_eq_true rfl) ⟨Nat.le_of_ble_eq_true rfl, Nat.le_of_ble_eq_true rfl⟩ dX0_bare_22 ⟨Nat.le_refl _, Nat.le_refl _⟩ rfl ?_
        refine lv_iconst (v := (1 : Int32)) hx hb dX0_bare_25 (by decide) ?_
        refine lv_icmp_ne (tgt := 41) hx hb dX0_bare_26 (by decide) (fun c26 => ?_) (fun c26 => ?_)
        · have hM := ite_f c26 hM
          refine lv_iinc (v := (v3_9 + (1 : Int32))) (lv' := [(3, .int (v3_9 + (1 : Int32))), (0, .ref a_t), (1, .int x1), (2, .int v2_9)]) hx hb dX0_bare_41 hl (k := 3) rfl rfl (by decide) rfl (fun ls hl => ?_)
          refine lv_goto (tgt := 9) hx hb dX0_bare_44 (by decide) ?_
          exact ih_9 v2_9 (v3_9 + (1 : Int32)) hM ls (lv_sub hl [1, 2, 3, 0] rfl)
        · have hM := ite_t c26 hM
          refine lv_iload_n hx hb dX0_bare_29 rfl (lv_at hl 2 rfl) ?_
          refine lv_aload_n hx hb dX0_bare_30 rfl (lv_at hl 0 rfl) ?_
          refine va_get (D := (dC, dI)) (ci := 0) (v := .ref a_t_grants) (C := RX0) (T := TX0) (N := 6) hx hb hU inlX0 hown hE.1 hP 0 rfl rfl 1 (by decide) (hU _ u_3_0) (fun _ h9 => h9) rfl dX0_bare_31 ?_
          refine lv_iload_n hx hb dX0_bare_34 rfl (lv_at hl 3 rfl) ?_
          refine lv_iconst (v := (2 : Int32)) hx hb dX0_bare_35 (by decide) ?_
          obtain ⟨x36, h36, hM⟩ := bind_e hM
          refine rdV (As := [.int v3_9, .int (2 : Int32)]) (rest := [.int v2_9]) (st2 := [.int x36, .int v2_9]) ⟨hx, hb, hml, hown, hU⟩ hE (okX1_at a_t_grants a_t_grants_cells s_t_grants s_t_grants_cells v3_9 (2 : Int32) x36 h36) lk_X0_43 (hP.sub [3, 4] rfl) rfl rfl rfl hl.1 rfl (Nat.le_of_ble_eq_true rfl) ⟨Nat.le_of_ble_eq_true rfl, Nat.le_of_ble_eq_true rfl⟩ dX0_bare_36 ⟨Nat.le_refl _, Nat.le_refl _⟩ rfl ?_
          refine lv_ior hx hb dX0_bare_39 ?_
          refine lv_istore_n (lv' := [(2, .int (v2_9 ||| x36)), (0, .ref a_t), (1, .int x1), (3, .int v3_9)]) hx hb dX0_bare_40 rfl hl (by decide) rfl (fun ls hl => ?_)
          refine lv_iinc (v := (v3_9 + (1 : Int32))) (lv' := [(3, .int (v3_9 + (1 : Int32))), (2, .int (v2_9 ||| x36)), (0, .ref a_t), (1, .int x1)]) hx hb dX0_bare_41 hl (k := 3) rfl rfl (by decide) rfl (fun ls hl => ?_)
          refine lv_goto (tgt := 9) hx hb dX0_bare_44 (by decide) ?_
          exact ih_9 (v2_9 ||| x36) (v3_9 + (1 : Int32)) hM ls (lv_sub hl [2, 3, 1, 0] rfl)
  exact w_9 FU (0 : Int32) (0 : Int32) hM ls (lv_sub hl [3, 2, 1, 0] rfl)
noncomputable def mX0_begin (s_t : Int32 × Int32 × Int32) (s_t_grants : Int32 × Int32 × Int32) (s_q1 : Int32 × Int32 × Int32) (s_q1_cells : Ar) (s_t_grants_cells : Ar) (s_t_routes : Int32 × Int32 × Int32) (s_q2 : Int32 × Int32 × Int32) (s_q2_cells : Ar) (s_t_routes_cells : Ar) : Option ((Int32 × Int32 × Int32) × (Int32 × Int32 × Int32) × Ar × (Int32 × Int32 × Int32) × Ar) := (mX1_copyFrom s_t_grants s_q1 s_q1_cells s_t_grants_cells).bind (fun x5 => (mX1_copyFrom s_t_routes s_q2 s_q2_cells s_t_routes_cells).bind (fun x13 => some (((0 : Int32), (0 : Int32), (0 : Int32)), x5.1, x5.2, x13.1, x13.2)))
set_option maxHeartbeats 4000000 in
set_option maxRecDepth 100000 in
theorem okX0_begin {l : Launch} {dC : Nat → ClassId} {dI : Nat → Nat → Nat} {cI cC cZ : ClassId} (a_t a_t_papers a_t_grants a_t_routes a_t_grants_cells a_q1 a_q1_cells a_t_routes_cells a_q2 a_q2_cells : Nat) (s_t : Int32 × Int32 × Int32) (s_t_grants : Int32 × Int32 × Int32) (s_q1 : Int32 × Int32 × Int32) (s_q1_cells : Ar) (s_t_grants_cells : Ar) (s_t_routes : Int32 × Int32 × Int32) (s_q2 : Int32 × Int32 × Int32) (s_q2_cells : Ar) (s_t_routes_cells : Ar) (res : (Int32 × Int32 × Int32) × (Int32 × Int32 × Int32) × Ar × (Int32 × Int32 × Int32) × Ar) (hM : mX0_begin s_t s_t_grants s_q1 s_q1_cells s_t_grants_cells s_t_routes s_q2 s_q2_cells s_t_routes_cells = some res) : Mu l yX0_begin cX0_begin 3 none 2 61 (dC, dI) cI cC cZ [(a_t, .inr (0, [.ref a_t_papers, .ref a_t_grants, .ref a_t_routes, .int s_t.1, .int s_t.2.1, .int s_t.2.2])), (a_t_grants, .inr (1, [.int s_t_grants.1, .int s_t_grants.2.1, .ref a_t_grants_cells, .int s_t_grants.2.2])), (a_q1, .inr (1, [.int s_q1.1, .int s_q1.2.1, .ref a_q1_cells, .int s_q1.2.2])), (a_q1_cells, .inl (cI, s_q1_cells.1, .inl s_q1_cells.2)), (a_t_grants_cells, .inl (cI, s_t_grants_cells.1, .inl s_t_grants_cells.2)), (a_t_routes, .inr (1, [.int s_t_routes.1, .int s_t_routes.2.1, .ref a_t_routes_cells, .int s_t_routes.2.2])), (a_q2, .inr (1, [.int s_q2.1, .int s_q2.2.1, .ref a_q2_cells, .int s_q2.2.2])), (a_q2_cells, .inl (cI, s_q2_cells.1, .inl s_q2_cells.2)), (a_t_routes_cells, .inl (cI, s_t_routes_cells.1, .inl s_t_routes_cells.2))] [(a_t, .inr (0, [.ref a_t_papers, .ref a_t_grants, .ref a_t_routes, .int res.1.1, .int res.1.2.1, .int res.1.2.2])), (a_t_grants, .inr (1, [.int res.2.1.1, .int res.2.1.2.1, .ref a_t_grants_cells, .int res.2.1.2.2])), (a_q1, .inr (1, [.int s_q1.1, .int s_q1.2.1, .ref a_q1_cells, .int s_q1.2.2])), (a_q1_cells, .inl (cI, s_q1_cells.1, .inl s_q1_cells.2)), (a_t_grants_cells, .inl (cI, res.2.2.1.1, .inl res.2.2.1.2)), (a_t_routes, .inr (1, [.int res.2.2.2.1.1, .int res.2.2.2.1.2.1, .ref a_t_routes_cells, .int res.2.2.2.1.2.2])), (a_q2, .inr (1, [.int s_q2.1, .int s_q2.2.1, .ref a_q2_cells, .int s_q2.2.2])), (a_q2_cells, .inl (cI, s_q2_cells.1, .inl s_q2_cells.2)), (a_t_routes_cells, .inl (cI, res.2.2.2.2.1, .inl res.2.2.2.2.2))] [.ref a_t, .ref a_q1, .ref a_q2] none := by
  refine Mu.ofV (by decide) (Nat.le_of_ble_eq_true rfl) [(0, .ref a_t), (1, .ref a_q1), (2, .ref a_q2)] rfl ?_
  intro p e s m args below meth c ls Q A hx hb hml hown hU hE hP hD hS hA rt hl
  have hown : s.vm.findClass RX0 = some m.cls := hown
  unfold mX0_begin at hM
  refine lv_aload_n hx hb dX0_begin_0 rfl (lv_at hl 0 rfl) ?_
  refine va_get (D := (dC, dI)) (ci := 0) (v := .ref a_t_grants) (C := RX0) (T := TX0) (N := 6) hx hb hU inlX0 hown hE.1 hP 0 rfl rfl 1 (by decide) (hU _ u_3_0) (fun _ h9 => h9) rfl dX0_begin_1 ?_
  refine lv_aload_n hx hb dX0_begin_4 rfl (lv_at hl 1 rfl) ?_
  obtain ⟨x5, h5, hM⟩ := bind_e hM
  refine muV (As := [.ref a_q1]) (rest := []) (st2 := []) (nw := [(a_t, .inr (0, [.ref a_t_papers, .ref a_t_grants, .ref a_t_routes, .int s_t.1, .int s_t.2.1, .int s_t.2.2])), (a_t_grants, .inr (1, [.int x5.1.1, .int x5.1.2.1, .ref a_t_grants_cells, .int x5.1.2.2])), (a_q1, .inr (1, [.int s_q1.1, .int s_q1.2.1, .ref a_q1_cells, .int s_q1.2.2])), (a_q1_cells, .inl (cI, s_q1_cells.1, .inl s_q1_cells.2)), (a_t_grants_cells, .inl (cI, x5.2.1, .inl x5.2.2)), (a_t_routes, .inr (1, [.int s_t_routes.1, .int s_t_routes.2.1, .ref a_t_routes_cells, .int s_t_routes.2.2])), (a_q2, .inr (1, [.int s_q2.1, .int s_q2.2.1, .ref a_q2_cells, .int s_q2.2.2])), (a_q2_cells, .inl (cI, s_q2_cells.1, .inl s_q2_cells.2)), (a_t_routes_cells, .inl (cI, s_t_routes_cells.1, .inl s_t_routes_cells.2))]) ⟨hx, hb, hml, hown, hU⟩ hE (okX1_copyFrom a_t_grants a_t_grants_cells a_q1 a_q1_cells s_t_grants s_q1 s_q1_cells s_t_grants_cells x5 h5) lk_X0_26 hP hD hS hA [1, 2, 3, 4] rfl rfl rfl rfl rfl rfl hl.1 rfl (Nat.le_of_ble_eq_true rfl) ⟨Nat.le_of_ble_eq_true rfl, Nat.le_of_ble_eq_true rfl⟩ dX0_begin_5 ⟨Nat.le_refl _, Nat.le_refl _⟩ rfl rfl rfl rfl (fun H locs hP hD hS => ?_)
  refine lv_aload_n hx hb dX0_begin_8 rfl (lv_at hl 0 rfl) ?_
  refine va_get (D := (dC, dI)) (ci := 0) (v := .ref a_t_routes) (C := RX0) (T := TX0) (N := 6) hx hb hU inlX0 hown hE.1 hP 0 rfl rfl 2 (by decide) (hU _ u_3_1) (fun _ h9 => h9) rfl dX0_begin_9 ?_
  refine lv_aload_n hx hb dX0_begin_12 rfl (lv_at hl 2 rfl) ?_
  obtain ⟨x13, h13, hM⟩ := bind_e hM
  refine muV (As := [.ref a_q2]) (rest := []) (st2 := []) (nw := [(a_t, .inr (0, [.ref a_t_papers, .ref a_t_grants, .ref a_t_routes, .int s_t.1, .int s_t.2.1, .int s_t.2.2])), (a_t_grants, .inr (1, [.int x5.1.1, .int x5.1.2.1, .ref a_t_grants_cells, .int x5.1.2.2])), (a_q1, .inr (1, [.int s_q1.1, .int s_q1.2.1, .ref a_q1_cells, .int s_q1.2.2])), (a_q1_cells, .inl (cI, s_q1_cells.1, .inl s_q1_cells.2)), (a_t_grants_cells, .inl (cI, x5.2.1, .inl x5.2.2)), (a_t_routes, .inr (1, [.int x13.1.1, .int x13.1.2.1, .ref a_t_routes_cells, .int x13.1.2.2])), (a_q2, .inr (1, [.int s_q2.1, .int s_q2.2.1, .ref a_q2_cells, .int s_q2.2.2])), (a_q2_cells, .inl (cI, s_q2_cells.1, .inl s_q2_cells.2)), (a_t_routes_cells, .inl (cI, x13.2.1, .inl x13.2.2))]) ⟨hx, hb, hml, hown, hU⟩ hE (okX1_copyFrom a_t_routes a_t_routes_cells a_q2 a_q2_cells s_t_routes s_q2 s_q2_cells s_t_routes_cells x13 h13) lk_X0_26 hP hD hS hA [5, 6, 7, 8] rfl rfl rfl rfl rfl rfl hl.1 rfl (Nat.le_of_ble_eq_true rfl) ⟨Nat.le_of_ble_eq_true rfl, Nat.le_of_ble_eq_true rfl⟩ dX0_begin_13 ⟨Nat.le_refl _, Nat.le_refl _⟩ rfl rfl rfl rfl (fun H locs hP hD hS => ?_)
  refine lv_aload_n hx hb dX0_begin_16 rfl (lv_at hl 0 rfl) ?_
  refine lv_iconst (v := (0 : Int32)) hx hb dX0_begin_17 (by decide) ?_
  refine va_put (D := (dC, dI)) (ci := 0) (v := .int (0 : Int32)) (ty := .int) (C := RX0) (T := TX0) (N := 6) hx hb hU inlX0 tyX0 tyX0_ok nmX0 hown hE.1 hP hD hS 0 rfl rfl 3 (by decide) (hU _ u_11_2) (fun _ h9 => h9) rfl (tyX0_ok 3 (by decide)) rfl rfl (Nat.le_of_ble_eq_true rfl) dX0_begin_18 (fun H locs hP hD hS => ?_)
  have hP : va_P (dC, dI) vwCl [(a_t, .inr (0, [.ref a_t_papers, .ref a_t_grants, .ref a_t_routes, .int (0 : Int32), .int s_t.2.1, .int s_t.2.2])), (a_t_grants, .inr (1, [.int x5.1.1, .int x5.1.2.1, .ref a_t_grants_cells, .int x5.1.2.2])), (a_q1, .inr (1, [.int s_q1.1, .int s_q1.2.1, .ref a_q1_cells, .int s_q1.2.2])), (a_q1_cells, .inl (cI, s_q1_cells.1, .inl s_q1_cells.2)), (a_t_grants_cells, .inl (cI, x5.2.1, .inl x5.2.2)), (a_t_routes, .inr (1, [.int x13.1.1, .int x13.1.2.1, .ref a_t_routes_cells, .int x13.1.2.2])), (a_q2, .inr (1, [.int s_q2.1, .int s_q2.2.1, .ref a_q2_cells, .int s_q2.2.2])), (a_q2_cells, .inl (cI, s_q2_cells.1, .inl s_q2_cells.2)), (a_t_routes_cells, .inl (cI, x13.2.1, .inl x13.2.2))] H := hP
  have hD : va_D A [(a_t, .inr (0, [.ref a_t_papers, .ref a_t_grants, .ref a_t_routes, .int (0 : Int32), .int s_t.2.1, .int s_t.2.2])), (a_t_grants, .inr (1, [.int x5.1.1, .int x5.1.2.1, .ref a_t_grants_cells, .int x5.1.2.2])), (a_q1, .inr (1, [.int s_q1.1, .int s_q1.2.1, .ref a_q1_cells, .int s_q1.2.2])), (a_q1_cells, .inl (cI, s_q1_cells.1, .inl s_q1_cells.2)), (a_t_grants_cells, .inl (cI, x5.2.1, .inl x5.2.2)), (a_t_routes, .inr (1, [.int x13.1.1, .int x13.1.2.1, .ref a_t_routes_cells, .int x13.1.2.2])), (a_q2, .inr (1, [.int s_q2.1, .int s_q2.2.1, .ref a_q2_cells, .int s_q2.2.2])), (a_q2_cells, .inl (cI, s_q2_cells.1, .inl s_q2_cells.2)), (a_t_routes_cells, .inl (cI, x13.2.1, .inl x13.2.2))] := hD
  refine lv_aload_n hx hb dX0_begin_21 rfl (lv_at hl 0 rfl) ?_
  refine lv_iconst (v := (0 : Int32)) hx hb dX0_begin_22 (by decide) ?_
  refine va_put (D := (dC, dI)) (ci := 0) (v := .int (0 : Int32)) (ty := .int) (C := RX0) (T := TX0) (N := 6) hx hb hU inlX0 tyX0 tyX0_ok nmX0 hown hE.1 hP hD hS 0 rfl rfl 4 (by decide) (hU _ u_11_3) (fun _ h9 => h9) rfl (tyX0_ok 4 (by decide)) rfl rfl (Nat.le_of_ble_eq_true rfl) dX0_begin_23 (fun H locs hP hD hS => ?_)
  have hP : va_P (dC, dI) vwCl [(a_t, .inr (0, [.ref a_t_papers, .ref a_t_grants, .ref a_t_routes, .int (0 : Int32), .int (0 : Int32), .int s_t.2.2])), (a_t_grants, .inr (1, [.int x5.1.1, .int x5.1.2.1, .ref a_t_grants_cells, .int x5.1.2.2])), (a_q1, .inr (1, [.int s_q1.1, .int s_q1.2.1, .ref a_q1_cells, .int s_q1.2.2])), (a_q1_cells, .inl (cI, s_q1_cells.1, .inl s_q1_cells.2)), (a_t_grants_cells, .inl (cI, x5.2.1, .inl x5.2.2)), (a_t_routes, .inr (1, [.int x13.1.1, .int x13.1.2.1, .ref a_t_routes_cells, .int x13.1.2.2])), (a_q2, .inr (1, [.int s_q2.1, .int s_q2.2.1, .ref a_q2_cells, .int s_q2.2.2])), (a_q2_cells, .inl (cI, s_q2_cells.1, .inl s_q2_cells.2)), (a_t_routes_cells, .inl (cI, x13.2.1, .inl x13.2.2))] H := hP
  have hD : va_D A [(a_t, .inr (0, [.ref a_t_papers, .ref a_t_grants, .ref a_t_routes, .int (0 : Int32), .int (0 : Int32), .int s_t.2.2])), (a_t_grants, .inr (1, [.int x5.1.1, .int x5.1.2.1, .ref a_t_grants_cells, .int x5.1.2.2])), (a_q1, .inr (1, [.int s_q1.1, .int s_q1.2.1, .ref a_q1_cells, .int s_q1.2.2])), (a_q1_cells, .inl (cI, s_q1_cells.1, .inl s_q1_cells.2)), (a_t_grants_cells, .inl (cI, x5.2.1, .inl x5.2.2)), (a_t_routes, .inr (1, [.int x13.1.1, .int x13.1.2.1, .ref a_t_routes_cells, .int x13.1.2.2])), (a_q2, .inr (1, [.int s_q2.1, .int s_q2.2.1, .ref a_q2_cells, .int s_q2.2.2])), (a_q2_cells, .inl (cI, s_q2_cells.1, .inl s_q2_cells.2)), (a_t_routes_cells, .inl (cI, x13.2.1, .inl x13.2.2))] := hD
  refine lv_aload_n hx hb dX0_begin_26 rfl (lv_at hl 0 rfl) ?_
  refine lv_iconst (v := (0 : Int32)) hx hb dX0_begin_27 (by decide) ?_
  refine va_put (D := (dC, dI)) (ci := 0) (v := .int (0 : Int32)) (ty := .int) (C := RX0) (T := TX0) (N := 6) hx hb hU inlX0 tyX0 tyX0_ok nmX0 hown hE.1 hP hD hS 0 rfl rfl 5 (by decide) (hU _ u_11_4) (fun _ h9 => h9) rfl (tyX0_ok 5 (by decide)) rfl rfl (Nat.le_of_ble_eq_true rfl) dX0_begin_28 (fun H locs hP hD hS => ?_)
  have hP : va_P (dC, dI) vwCl [(a_t, .inr (0, [.ref a_t_papers, .ref a_t_grants, .ref a_t_routes, .int (0 : Int32), .int (0 : Int32), .int (0 : Int32)])), (a_t_grants, .inr (1, [.int x5.1.1, .int x5.1.2.1, .ref a_t_grants_cells, .int x5.1.2.2])), (a_q1, .inr (1, [.int s_q1.1, .int s_q1.2.1, .ref a_q1_cells, .int s_q1.2.2])), (a_q1_cells, .inl (cI, s_q1_cells.1, .inl s_q1_cells.2)), (a_t_grants_cells, .inl (cI, x5.2.1, .inl x5.2.2)), (a_t_routes, .inr (1, [.int x13.1.1, .int x13.1.2.1, .ref a_t_routes_cells, .int x13.1.2.2])), (a_q2, .inr (1, [.int s_q2.1, .int s_q2.2.1, .ref a_q2_cells, .int s_q2.2.2])), (a_q2_cells, .inl (cI, s_q2_cells.1, .inl s_q2_cells.2)), (a_t_routes_cells, .inl (cI, x13.2.1, .inl x13.2.2))] H := hP
  have hD : va_D A [(a_t, .inr (0, [.ref a_t_papers, .ref a_t_grants, .ref a_t_routes, .int (0 : Int32), .int (0 : Int32), .int (0 : Int32)])), (a_t_grants, .inr (1, [.int x5.1.1, .int x5.1.2.1, .ref a_t_grants_cells, .int x5.1.2.2])), (a_q1, .inr (1, [.int s_q1.1, .int s_q1.2.1, .ref a_q1_cells, .int s_q1.2.2])), (a_q1_cells, .inl (cI, s_q1_cells.1, .inl s_q1_cells.2)), (a_t_grants_cells, .inl (cI, x5.2.1, .inl x5.2.2)), (a_t_routes, .inr (1, [.int x13.1.1, .int x13.1.2.1, .ref a_t_routes_cells, .int x13.1.2.2])), (a_q2, .inr (1, [.int s_q2.1, .int s_q2.2.1, .ref a_q2_cells, .int s_q2.2.2])), (a_q2_cells, .inl (cI, s_q2_cells.1, .inl s_q2_cells.2)), (a_t_routes_cells, .inl (cI, x13.2.1, .inl x13.2.2))] := hD
  cases hM
  exact rt _ _ _ _ hP hS dX0_begin_31 rfl
noncomputable def mX0_canPassNight (s_t : Int32 × Int32 × Int32) : Option (Bool × (Int32 × Int32 × Int32)) := (if s_t.2.2 < (9 : Int32) then some (true, (s_t.1, s_t.2.1, (s_t.2.2 + (1 : Int32)))) else some (false, s_t))
set_option maxHeartbeats 4000000 in
set_option maxRecDepth 100000 in
theorem okX0_canPassNight {l : Launch} {dC : Nat → ClassId} {dI : Nat → Nat → Nat} {cI cC cZ : ClassId} (a_t a_t_papers a_t_grants a_t_routes : Nat) (s_t : Int32 × Int32 × Int32) (res : Bool × (Int32 × Int32 × Int32)) (hM : mX0_canPassNight s_t = some res) : Mu l yX0_canPassNight cX0_canPassNight 1 (some .boolean) 0 0 (dC, dI) cI cC cZ [(a_t, .inr (0, [.ref a_t_papers, .ref a_t_grants, .ref a_t_routes, .int s_t.1, .int s_t.2.1, .int s_t.2.2]))] [(a_t, .inr (0, [.ref a_t_papers, .ref a_t_grants, .ref a_t_routes, .int res.2.1, .int res.2.2.1, .int res.2.2.2]))] [.ref a_t] (some (.int (b2i res.1))) := by
  refine Mu.ofZ (by decide) (Nat.le_of_ble_eq_true rfl) [(0, .ref a_t)] rfl ?_
  intro p e s m args below meth c ls Q A hx hb hml hown hU hE hP hD hS hA rt hl
  have hown : s.vm.findClass RX0 = some m.cls := hown
  unfold mX0_canPassNight at hM
  refine lv_aload_n hx hb dX0_canPassNight_0 rfl (lv_at hl 0 rfl) ?_
  refine va_get (D := (dC, dI)) (ci := 0) (v := .int s_t.2.2) (C := RX0) (T := TX0) (N := 6) hx hb hU inlX0 hown hE.1 hP 0 rfl rfl 5 (by decide) (hU _ u_11_4) (fun _ h9 => h9) rfl dX0_canPassNight_1 ?_
  refine lv_bipush (v := (9 : Int32)) hx hb dX0_canPassNight_4 (by decide) ?_
  refine lv_icmp_lt (tgt := 11) hx hb dX0_canPassNight_6 (by decide) (fun c6 => ?_) (fun c6 => ?_)
  · have hM := ite_t c6 hM
    refine lv_aload_n hx hb dX0_canPassNight_11 rfl (lv_at hl 0 rfl) ?_
    refine lv_dup hx hb dX0_canPassNight_12 rfl ?_
    refine va_get (D := (dC, dI)) (ci := 0) (v := .int s_t.2.2) (C := RX0) (T := TX0) (N := 6) hx hb hU inlX0 hown hE.1 hP 0 rfl rfl 5 (by decide) (hU _ u_11_4) (fun _ h9 => h9) rfl dX0_canPassNight_13 ?_
    refine lv_iconst (v := (1 : Int32)) hx hb dX0_canPassNight_16 (by decide) ?_
    refine lv_iadd hx hb dX0_canPassNight_17 ?_
    refine va_put (D := (dC, dI)) (ci := 0) (v := .int (s_t.2.2 + (1 : Int32))) (ty := .int) (C := RX0) (T := TX0) (N := 6) hx hb hU inlX0 tyX0 tyX0_ok nmX0 hown hE.1 hP hD hS 0 rfl rfl 5 (by decide) (hU _ u_11_4) (fun _ h9 => h9) rfl (tyX0_ok 5 (by decide)) rfl rfl (Nat.le_of_ble_eq_true rfl) dX0_canPassNight_18 (fun H locs hP hD hS => ?_)
    have hP : va_P (dC, dI) vwCl [(a_t, .inr (0, [.ref a_t_papers, .ref a_t_grants, .ref a_t_routes, .int s_t.1, .int s_t.2.1, .int (s_t.2.2 + (1 : Int32))]))] H := hP
    have hD : va_D A [(a_t, .inr (0, [.ref a_t_papers, .ref a_t_grants, .ref a_t_routes, .int s_t.1, .int s_t.2.1, .int (s_t.2.2 + (1 : Int32))]))] := hD
    refine lv_iconst (v := (1 : Int32)) hx hb dX0_canPassNight_21 (by decide) ?_
    cases hM
    exact rt true _ _ _ _ hP hS dX0_canPassNight_22 rfl
  · have hM := ite_f c6 hM
    refine lv_iconst (v := (0 : Int32)) hx hb dX0_canPassNight_9 (by decide) ?_
    cases hM
    exact rt false _ _ _ _ hP hS dX0_canPassNight_10 rfl
noncomputable def mX0_canRevoke (s_t : Int32 × Int32 × Int32) (s_t_papers : Int32 × Int32 × Int32) (v1 : Int32) : Option (Bool × (Int32 × Int32 × Int32)) := (if v1 = 0 then some (false, s_t) else (mX1_has s_t_papers v1).bind (fun x9 => (if x9 = true then some (true, ((s_t.1 ^^^ ((1 : Int32) <<< (v1 &&& 31))), s_t.2.1, s_t.2.2)) else some (false, s_t))))
set_option maxHeartbeats 4000000 in
set_option maxRecDepth 100000 in
theorem okX0_canRevoke {l : Launch} {dC : Nat → ClassId} {dI : Nat → Nat → Nat} {cI cC cZ : ClassId} (a_t a_t_papers a_t_grants a_t_routes a_t_papers_cells : Nat) (s_t : Int32 × Int32 × Int32) (s_t_papers : Int32 × Int32 × Int32) (v1 : Int32) (res : Bool × (Int32 × Int32 × Int32)) (hM : mX0_canRevoke s_t s_t_papers v1 = some res) : Mu l yX0_canRevoke cX0_canRevoke 2 (some .boolean) 1 21 (dC, dI) cI cC cZ [(a_t, .inr (0, [.ref a_t_papers, .ref a_t_grants, .ref a_t_routes, .int s_t.1, .int s_t.2.1, .int s_t.2.2])), (a_t_papers, .inr (1, [.int s_t_papers.1, .int s_t_papers.2.1, .ref a_t_papers_cells, .int s_t_papers.2.2]))] [(a_t, .inr (0, [.ref a_t_papers, .ref a_t_grants, .ref a_t_routes, .int res.2.1, .int res.2.2.1, .int res.2.2.2])), (a_t_papers, .inr (1, [.int s_t_papers.1, .int s_t_papers.2.1, .ref a_t_papers_cells, .int s_t_papers.2.2]))] [.ref a_t, .int v1] (some (.int (b2i res.1))) := by
  refine Mu.ofZ (by decide) (Nat.le_of_ble_eq_true rfl) [(0, .ref a_t), (1, .int v1)] rfl ?_
  intro p e s m args below meth c ls Q A hx hb hml hown hU hE hP hD hS hA rt hl
  have hown : s.vm.findClass RX0 = some m.cls := hown
  unfold mX0_canRevoke at hM
  refine lv_iload_n hx hb dX0_canRevoke_0 rfl (lv_at hl 1 rfl) ?_
  refine lv_if_eq (tgt := 15) hx hb dX0_canRevoke_1 (by decide) (fun c1 => ?_) (fun c1 => ?_)
  · have hM := ite_t c1 hM
    refine lv_iconst (v := (0 : Int32)) hx hb dX0_canRevoke_15 (by decide) ?_
    cases hM
    exact rt false _ _ _ _ hP hS dX0_canRevoke_16 rfl
  · have hM := ite_f c1 hM
    refine lv_aload_n hx hb dX0_canRevoke_4 rfl (lv_at hl 0 rfl) ?_
    refine va_get (D := (dC, dI)) (ci := 0) (v := .ref a_t_papers) (C := RX0) (T := TX0) (N := 6) hx hb hU inlX0 hown hE.1 hP 0 rfl rfl 0 (by decide) (hU _ u_3_2) (fun _ h9 => h9) rfl dX0_canRevoke_5 ?_
    refine lv_iload_n hx hb dX0_canRevoke_8 rfl (lv_at hl 1 rfl) ?_
    obtain ⟨x9, h9, hM⟩ := bind_e hM
    refine rdV (As := [.int v1]) (rest := []) (st2 := [.int (b2i x9)]) ⟨hx, hb, hml, hown, hU⟩ hE (okX1_has a_t_papers a_t_papers_cells s_t_papers v1 x9 h9) lk_X0_94 (hP.sub [1] rfl) rfl rfl rfl hl.1 rfl (Nat.le_of_ble_eq_true rfl) ⟨Nat.le_of_ble_eq_true rfl, Nat.le_of_ble_eq_true rfl⟩ dX0_canRevoke_9 ⟨Nat.le_refl _, Nat.le_refl _⟩ rfl ?_
    refine lv_if_ne (tgt := 17) hx hb dX0_canRevoke_12 (by decide) (fun c12 => ?_) (fun c12 => ?_)
    · have hM := ite_t (b2i_ne0 c12) hM
      refine lv_aload_n hx hb dX0_canRevoke_17 rfl (lv_at hl 0 rfl) ?_
      refine lv_dup hx hb dX0_canRevoke_18 rfl ?_
      refine va_get (D := (dC, dI)) (ci := 0) (v := .int s_t.1) (C := RX0) (T := TX0) (N := 6) hx hb hU inlX0 hown hE.1 hP 0 rfl rfl 3 (by decide) (hU _ u_11_2) (fun _ h9 => h9) rfl dX0_canRevoke_19 ?_
      refine lv_iconst (v := (1 : Int32)) hx hb dX0_canRevoke_22 (by decide) ?_
      refine lv_iload_n hx hb dX0_canRevoke_23 rfl (lv_at hl 1 rfl) ?_
      refine lv_ishl hx hb dX0_canRevoke_24 ?_
      refine lv_ixor hx hb dX0_canRevoke_25 ?_
      refine va_put (D := (dC, dI)) (ci := 0) (v := .int (s_t.1 ^^^ ((1 : Int32) <<< (v1 &&& 31)))) (ty := .int) (C := RX0) (T := TX0) (N := 6) hx hb hU inlX0 tyX0 tyX0_ok nmX0 hown hE.1 hP hD hS 0 rfl rfl 3 (by decide) (hU _ u_11_2) (fun _ h9 => h9) rfl (tyX0_ok 3 (by decide)) rfl rfl (Nat.le_of_ble_eq_true rfl) dX0_canRevoke_26 (fun H locs hP hD hS => ?_)
      have hP : va_P (dC, dI) vwCl [(a_t, .inr (0, [.ref a_t_papers, .ref a_t_grants, .ref a_t_routes, .int (s_t.1 ^^^ ((1 : Int32) <<< (v1 &&& 31))), .int s_t.2.1, .int s_t.2.2])), (a_t_papers, .inr (1, [.int s_t_papers.1, .int s_t_papers.2.1, .ref a_t_papers_cells, .int s_t_papers.2.2]))] H := hP
      have hD : va_D A [(a_t, .inr (0, [.ref a_t_papers, .ref a_t_grants, .ref a_t_routes, .int (s_t.1 ^^^ ((1 : Int32) <<< (v1 &&& 31))), .int s_t.2.1, .int s_t.2.2])), (a_t_papers, .inr (1, [.int s_t_papers.1, .int s_t_papers.2.1, .ref a_t_papers_cells, .int s_t_papers.2.2]))] := hD
      refine lv_iconst (v := (1 : Int32)) hx hb dX0_canRevoke_29 (by decide) ?_
      cases hM
      exact rt true _ _ _ _ hP hS dX0_canRevoke_30 rfl
    · have hM := ite_f (b2i_eq0 c12) hM
      refine lv_iconst (v := (0 : Int32)) hx hb dX0_canRevoke_15 (by decide) ?_
      cases hM
      exact rt false _ _ _ _ hP hS dX0_canRevoke_16 rfl
noncomputable def mX3_isOrigin (v0 : Int32) : Option (Bool) := (if v0 < 0 then some (false) else (if (6 : Int32) ≤ v0 then some (false) else some (true)))
set_option maxHeartbeats 4000000 in
set_option maxRecDepth 100000 in
theorem okX3_isOrigin {l : Launch} {dC : Nat → ClassId} {dI : Nat → Nat → Nat} {cI cC cZ : ClassId} (v0 : Int32) (res : Bool) (hM : mX3_isOrigin v0 = some res) : Rd l yX3_isOrigin cX3_isOrigin 1 (some .boolean) 0 0 (dC, dI) cI cC cZ [] [.int v0] (some (.int (b2i res))) := by
  refine Rd.ofZ (by decide) (Nat.le_of_ble_eq_true rfl) [(0, .int v0)] rfl ?_
  intro p e s m args below meth c ls Q hx hb hml hown hU hE hP rt hl
  have hown : s.vm.findClass RX3 = some m.cls := hown
  unfold mX3_isOrigin at hM
  refine lv_iload_n hx hb dX3_isOrigin_0 rfl (lv_at hl 0 rfl) ?_
  refine lv_if_lt (tgt := 14) hx hb dX3_isOrigin_1 (by decide) (fun c1 => ?_) (fun c1 => ?_)
  · have hM := ite_t c1 hM
    refine lv_iconst (v := (0 : Int32)) hx hb dX3_isOrigin_14 (by decide) ?_
    cases hM
    exact rt false _ _ dX3_isOrigin_15 rfl
  · have hM := ite_f c1 hM
    refine lv_iload_n hx hb dX3_isOrigin_4 rfl (lv_at hl 0 rfl) ?_
    refine lv_bipush (v := (6 : Int32)) hx hb dX3_isOrigin_5 (by decide) ?_
    refine lv_icmp_ge (tgt := 14) hx hb dX3_isOrigin_7 (by decide) (fun c7 => ?_) (fun c7 => ?_)
    · have hM := ite_t c7 hM
      refine lv_iconst (v := (0 : Int32)) hx hb dX3_isOrigin_14 (by decide) ?_
      cases hM
      exact rt false _ _ dX3_isOrigin_15 rfl
    · have hM := ite_f c7 hM
      refine lv_iconst (v := (1 : Int32)) hx hb dX3_isOrigin_10 (by decide) ?_
      refine lv_goto (tgt := 15) hx hb dX3_isOrigin_11 (by decide) ?_
      cases hM
      exact rt true _ _ dX3_isOrigin_15 rfl
noncomputable def mX0_canSetAside (s_t : Int32 × Int32 × Int32) (v1 : Int32) : Option (Bool × (Int32 × Int32 × Int32)) := (mX3_isOrigin v1).bind (fun x1 => (if x1 = true then some (true, (s_t.1, (s_t.2.1 ^^^ ((1 : Int32) <<< (v1 &&& 31))), s_t.2.2)) else some (false, s_t)))
set_option maxHeartbeats 4000000 in
set_option maxRecDepth 100000 in
theorem okX0_canSetAside {l : Launch} {dC : Nat → ClassId} {dI : Nat → Nat → Nat} {cI cC cZ : ClassId} (a_t a_t_papers a_t_grants a_t_routes : Nat) (s_t : Int32 × Int32 × Int32) (v1 : Int32) (res : Bool × (Int32 × Int32 × Int32)) (hM : mX0_canSetAside s_t v1 = some res) : Mu l yX0_canSetAside cX0_canSetAside 2 (some .boolean) 1 20 (dC, dI) cI cC cZ [(a_t, .inr (0, [.ref a_t_papers, .ref a_t_grants, .ref a_t_routes, .int s_t.1, .int s_t.2.1, .int s_t.2.2]))] [(a_t, .inr (0, [.ref a_t_papers, .ref a_t_grants, .ref a_t_routes, .int res.2.1, .int res.2.2.1, .int res.2.2.2]))] [.ref a_t, .int v1] (some (.int (b2i res.1))) := by
  refine Mu.ofZ (by decide) (Nat.le_of_ble_eq_true rfl) [(0, .ref a_t), (1, .int v1)] rfl ?_
  intro p e s m args below meth c ls Q A hx hb hml hown hU hE hP hD hS hA rt hl
  have hown : s.vm.findClass RX0 = some m.cls := hown
  unfold mX0_canSetAside at hM
  refine lv_iload_n hx hb dX0_canSetAside_0 rfl (lv_at hl 1 rfl) ?_
  obtain ⟨x1, h1, hM⟩ := bind_e hM
  refine rdN (As := [.int v1]) (rest := []) (st2 := [.int (b2i x1)]) ⟨hx, hb, hml, hown, hU⟩ hE hE.2.2.2.2.2.2.1 (okX3_isOrigin v1 x1 h1) kn_X3_isOrigin (hP.sub [] rfl) rfl hl.1 rfl (Nat.le_of_ble_eq_true rfl) ⟨Nat.le_of_ble_eq_true rfl, Nat.le_of_ble_eq_true rfl⟩ dX0_canSetAside_1 ⟨Nat.le_refl _, Nat.le_refl _⟩ rfl ?_
  refine lv_if_ne (tgt := 9) hx hb dX0_canSetAside_4 (by decide) (fun c4 => ?_) (fun c4 => ?_)
  · have hM := ite_t (b2i_ne0 c4) hM
    refine lv_aload_n hx hb dX0_canSetAside_9 rfl (lv_at hl 0 rfl) ?_
    refine lv_dup hx hb dX0_canSetAside_10 rfl ?_
    refine va_get (D := (dC, dI)) (ci := 0) (v := .int s_t.2.1) (C := RX0) (T := TX0) (N := 6) hx hb hU inlX0 hown hE.1 hP 0 rfl rfl 4 (by decide) (hU _ u_11_3) (fun _ h9 => h9) rfl dX0_canSetAside_11 ?_
    refine lv_iconst (v := (1 : Int32)) hx hb dX0_canSetAside_14 (by decide) ?_
    refine lv_iload_n hx hb dX0_canSetAside_15 rfl (lv_at hl 1 rfl) ?_
    refine lv_ishl hx hb dX0_canSetAside_16 ?_
    refine lv_ixor hx hb dX0_canSetAside_17 ?_
    refine va_put (D := (dC, dI)) (ci := 0) (v := .int (s_t.2.1 ^^^ ((1 : Int32) <<< (v1 &&& 31)))) (ty := .int) (C := RX0) (T := TX0) (N := 6) hx hb hU inlX0 tyX0 tyX0_ok nmX0 hown hE.1 hP hD hS 0 rfl rfl 4 (by decide) (hU _ u_11_3) (fun _ h9 => h9) rfl (tyX0_ok 4 (by decide)) rfl rfl (Nat.le_of_ble_eq_true rfl) dX0_canSetAside_18 (fun H locs hP hD hS => ?_)
    have hP : va_P (dC, dI) vwCl [(a_t, .inr (0, [.ref a_t_papers, .ref a_t_grants, .ref a_t_routes, .int s_t.1, .int (s_t.2.1 ^^^ ((1 : Int32) <<< (v1 &&& 31))), .int s_t.2.2]))] H := hP
    have hD : va_D A [(a_t, .inr (0, [.ref a_t_papers, .ref a_t_grants, .ref a_t_routes, .int s_t.1, .int (s_t.2.1 ^^^ ((1 : Int32) <<< (v1 &&& 31))), .int s_t.2.2]))] := hD
    refine lv_iconst (v := (1 : Int32)) hx hb dX0_canSetAside_21 (by decide) ?_
    cases hM
    exact rt true _ _ _ _ hP hS dX0_canSetAside_22 rfl
  · have hM := ite_f (b2i_eq0 c4) hM
    refine lv_iconst (v := (0 : Int32)) hx hb dX0_canSetAside_7 (by decide) ?_
    cases hM
    exact rt false _ _ _ _ hP hS dX0_canSetAside_8 rfl
noncomputable def mX0_canWithdraw (s_t_routes : Int32 × Int32 × Int32) (s_t_routes_cells : Ar) (v1 : Int32) : Option (Bool × (Int32 × Int32 × Int32) × Ar) := (mX1_has s_t_routes v1).bind (fun x5 => (if x5 = true then (mX1_closeAt s_t_routes s_t_routes_cells v1).bind (fun x18 => some (true, x18.1, x18.2)) else some (false, s_t_routes, s_t_routes_cells)))
set_option maxHeartbeats 4000000 in
set_option maxRecDepth 100000 in
theorem okX0_canWithdraw {l : Launch} {dC : Nat → ClassId} {dI : Nat → Nat → Nat} {cI cC cZ : ClassId} (a_t a_t_papers a_t_grants a_t_routes a_t_routes_cells : Nat) (s_t : Int32 × Int32 × Int32) (s_t_routes : Int32 × Int32 × Int32) (s_t_routes_cells : Ar) (v1 : Int32) (res : Bool × (Int32 × Int32 × Int32) × Ar) (hM : mX0_canWithdraw s_t_routes s_t_routes_cells v1 = some res) : Mu l yX0_canWithdraw cX0_canWithdraw 2 (some .boolean) 2 61 (dC, dI) cI cC cZ [(a_t, .inr (0, [.ref a_t_papers, .ref a_t_grants, .ref a_t_routes, .int s_t.1, .int s_t.2.1, .int s_t.2.2])), (a_t_routes, .inr (1, [.int s_t_routes.1, .int s_t_routes.2.1, .ref a_t_routes_cells, .int s_t_routes.2.2])), (a_t_routes_cells, .inl (cI, s_t_routes_cells.1, .inl s_t_routes_cells.2))] [(a_t, .inr (0, [.ref a_t_papers, .ref a_t_grants, .ref a_t_routes, .int s_t.1, .int s_t.2.1, .int s_t.2.2])), (a_t_routes, .inr (1, [.int res.2.1.1, .int res.2.1.2.1, .ref a_t_routes_cells, .int res.2.1.2.2])), (a_t_routes_cells, .inl (cI, res.2.2.1, .inl res.2.2.2))] [.ref a_t, .int v1] (some (.int (b2i res.1))) := by
  refine Mu.ofZ (by decide) (Nat.le_of_ble_eq_true rfl) [(0, .ref a_t), (1, .int v1)] rfl ?_
  intro p e s m args below meth c ls Q A hx hb hml hown hU hE hP hD hS hA rt hl
  have hown : s.vm.findClass RX0 = some m.cls := hown
  unfold mX0_canWithdraw at hM
  refine lv_aload_n hx hb dX0_canWithdraw_0 rfl (lv_at hl 0 rfl) ?_
  refine va_get (D := (dC, dI)) (ci := 0) (v := .ref a_t_routes) (C := RX0) (T := TX0) (N := 6) hx hb hU inlX0 hown hE.1 hP 0 rfl rfl 2 (by decide) (hU _ u_3_1) (fun _ h9 => h9) rfl dX0_canWithdraw_1 ?_
  refine lv_iload_n hx hb dX0_canWithdraw_4 rfl (lv_at hl 1 rfl) ?_
  obtain ⟨x5, h5, hM⟩ := bind_e hM
  refine rdV (As := [.int v1]) (rest := []) (st2 := [.int (b2i x5)]) ⟨hx, hb, hml, hown, hU⟩ hE (okX1_has a_t_routes a_t_routes_cells s_t_routes v1 x5 h5) lk_X0_94 (hP.sub [1] rfl) rfl rfl rfl hl.1 rfl (Nat.le_of_ble_eq_true rfl) ⟨Nat.le_of_ble_eq_true rfl, Nat.le_of_ble_eq_true rfl⟩ dX0_canWithdraw_5 ⟨Nat.le_refl _, Nat.le_refl _⟩ rfl ?_
  refine lv_if_ne (tgt := 13) hx hb dX0_canWithdraw_8 (by decide) (fun c8 => ?_) (fun c8 => ?_)
  · have hM := ite_t (b2i_ne0 c8) hM
    refine lv_aload_n hx hb dX0_canWithdraw_13 rfl (lv_at hl 0 rfl) ?_
    refine va_get (D := (dC, dI)) (ci := 0) (v := .ref a_t_routes) (C := RX0) (T := TX0) (N := 6) hx hb hU inlX0 hown hE.1 hP 0 rfl rfl 2 (by decide) (hU _ u_3_1) (fun _ h9 => h9) rfl dX0_canWithdraw_14 ?_
    refine lv_iload_n hx hb dX0_canWithdraw_17 rfl (lv_at hl 1 rfl) ?_
    obtain ⟨x18, h18, hM⟩ := bind_e hM
    refine muV (As := [.int v1]) (rest := []) (st2 := []) (nw := [(a_t, .inr (0, [.ref a_t_papers, .ref a_t_grants, .ref a_t_routes, .int s_t.1, .int s_t.2.1, .int s_t.2.2])), (a_t_routes, .inr (1, [.int x18.1.1, .int x18.1.2.1, .ref a_t_routes_cells, .int x18.1.2.2])), (a_t_routes_cells, .inl (cI, x18.2.1, .inl x18.2.2))]) ⟨hx, hb, hml, hown, hU⟩ hE (okX1_closeAt a_t_routes a_t_routes_cells s_t_routes s_t_routes_cells v1 x18 h18) lk_X0_112 hP hD hS hA [1, 2] rfl rfl rfl rfl rfl rfl hl.1 rfl (Nat.le_of_ble_eq_true rfl) ⟨Nat.le_of_ble_eq_true rfl, Nat.le_of_ble_eq_true rfl⟩ dX0_canWithdraw_18 ⟨Nat.le_refl _, Nat.le_refl _⟩ rfl rfl rfl rfl (fun H locs hP hD hS => ?_)
    refine lv_iconst (v := (1 : Int32)) hx hb dX0_canWithdraw_21 (by decide) ?_
    cases hM
    exact rt true _ _ _ _ hP hS dX0_canWithdraw_22 rfl
  · have hM := ite_f (b2i_eq0 c8) hM
    refine lv_iconst (v := (0 : Int32)) hx hb dX0_canWithdraw_11 (by decide) ?_
    cases hM
    exact rt false _ _ _ _ hP hS dX0_canWithdraw_12 rfl
noncomputable def mX0_routesThatAre_b5 (s_t_routes : Int32 × Int32 × Int32) (s_t_routes_cells : Ar) (s_t_grants : Int32 × Int32 × Int32) (s_t_grants_cells : Ar) (v1 : Int32) (v2 : Int32) : Nat → Int32 → Int32 → Option (Int32)
  | 0, _, _ => none
  | n + 1, v3, v4 => (if s_t_routes.2.2 ≤ v4 then some (v3) else (mX1_at s_t_routes s_t_routes_cells v4 (2 : Int32)).bind (fun x24 => (mX1_at s_t_routes s_t_routes_cells v4 (1 : Int32)).bind (fun x39 => (mX1_at s_t_routes s_t_routes_cells v4 (3 : Int32)).bind (fun x49 => (mX0_stateOf s_t_grants s_t_grants_cells x24 x39 x49 v2).bind (fun x53 => (if x53 = v1 then bnd (v3 ||| ((1 : Int32) <<< (v4 &&& 31))) (fun z66 => mX0_routesThatAre_b5 s_t_routes s_t_routes_cells s_t_grants s_t_grants_cells v1 v2 n z66 (v4 + (1 : Int32))) else mX0_routesThatAre_b5 s_t_routes s_t_routes_cells s_t_grants s_t_grants_cells v1 v2 n v3 (v4 + (1 : Int32))))))))
noncomputable def mX0_routesThatAre (s_t_routes : Int32 × Int32 × Int32) (s_t_routes_cells : Ar) (s_t_grants : Int32 × Int32 × Int32) (s_t_grants_cells : Ar) (v1 : Int32) (v2 : Int32) : Option (Int32) := mX0_routesThatAre_b5 s_t_routes s_t_routes_cells s_t_grants s_t_grants_cells v1 v2 FU (0 : Int32) (0 : Int32)
set_option maxHeartbeats 4000000 in
set_option maxRecDepth 100000 in
theorem okX0_routesThatAre {l : Launch} {dC : Nat → ClassId} {dI : Nat → Nat → Nat} {cI cC cZ : ClassId} (a_t a_t_papers a_t_grants a_t_routes a_t_routes_cells a_t_grants_cells : Nat) (s_t : Int32 × Int32 × Int32) (s_t_routes : Int32 × Int32 × Int32) (s_t_routes_cells : Ar) (s_t_grants : Int32 × Int32 × Int32) (s_t_grants_cells : Ar) (v1 : Int32) (v2 : Int32) (res : Int32) (hM : mX0_routesThatAre s_t_routes s_t_routes_cells s_t_grants s_t_grants_cells v1 v2 = some res) : Rd l yX0_routesThatAre cX0_routesThatAre 6 (some .int) 2 48 (dC, dI) cI cC cZ [(a_t, .inr (0, [.ref a_t_papers, .ref a_t_grants, .ref a_t_routes, .int s_t.1, .int s_t.2.1, .int s_t.2.2])), (a_t_routes, .inr (1, [.int s_t_routes.1, .int s_t_routes.2.1, .ref a_t_routes_cells, .int s_t_routes.2.2])), (a_t_routes_cells, .inl (cI, s_t_routes_cells.1, .inl s_t_routes_cells.2)), (a_t_grants, .inr (1, [.int s_t_grants.1, .int s_t_grants.2.1, .ref a_t_grants_cells, .int s_t_grants.2.2])), (a_t_grants_cells, .inl (cI, s_t_grants_cells.1, .inl s_t_grants_cells.2))] [.ref a_t, .int v1, .int v2] (some (.int res)) := by
  refine Rd.ofI (by decide) (Nat.le_of_ble_eq_true rfl) [(0, .ref a_t), (1, .int v1), (2, .int v2)] rfl ?_
  intro p e s m args below meth c ls Q hx hb hml hown hU hE hP rt hl
  have hown : s.vm.findClass RX0 = some m.cls := hown
  unfold mX0_routesThatAre at hM
  refine lv_iconst (v := (0 : Int32)) hx hb dX0_routesThatAre_0 (by decide) ?_
  refine lv_istore_n (lv' := [(3, .int (0 : Int32)), (0, .ref a_t), (1, .int v1), (2, .int v2)]) hx hb dX0_routesThatAre_1 rfl hl (by decide) rfl (fun ls hl => ?_)
  refine lv_iconst (v := (0 : Int32)) hx hb dX0_routesThatAre_2 (by decide) ?_
  refine lv_istore (lv' := [(4, .int (0 : Int32)), (3, .int (0 : Int32)), (0, .ref a_t), (1, .int v1), (2, .int v2)]) hx hb dX0_routesThatAre_3 hl (by decide) rfl (fun ls hl => ?_)
  have w_5 : ∀ (n : Nat) (v3_5 : Int32) (v4_5 : Int32), mX0_routesThatAre_b5 s_t_routes s_t_routes_cells s_t_grants s_t_grants_cells v1 v2 n v3_5 v4_5 = some res → ∀ (ls : Array Slot), lv_has ls 6 [(0, .ref a_t), (1, .int v1), (2, .int v2), (3, .int v3_5), (4, .int v4_5)] → W p l e (RM 2 48) s m args below meth c s.heap [] 0 0 Q (F0 m 5 ls []) := by
    intro n
    induction n with
    | zero =>
      intro v3_5 v4_5 hM
      rw [mX0_routesThatAre_b5] at hM
      cases hM
    | succ n_5 ih_5 =>
      intro v3_5 v4_5 hM ls hl
      rw [mX0_routesThatAre_b5] at hM
      refine lv_iload hx hb dX0_routesThatAre_5 (lv_at hl 4 rfl) ?_
      refine lv_aload_n hx hb dX0_routesThatAre_7 rfl (lv_at hl 0 rfl) ?_
      refine va_get (D := (dC, dI)) (ci := 0) (v := .ref a_t_routes) (C := RX0) (T := TX0) (N := 6) hx hb hU inlX0 hown hE.1 hP 0 rfl rfl 2 (by decide) (hU _ u_3_1) (fun _ h9 => h9) rfl dX0_routesThatAre_8 ?_
      refine va_get (D := (dC, dI)) (ci := 1) (v := .int s_t_routes.2.2) (C := RX1) (T := TX1) (N := 4) hx hb hU inlX1 hown hE.1 hP 1 rfl rfl 3 (by decide) (hU _ u_12_3) (fun _ h9 => h9) rfl dX0_routesThatAre_11 ?_
      refine lv_icmp_ge (tgt := 73) hx hb dX0_routesThatAre_14 (by decide) (fun c14 => ?_) (fun c14 => ?_)
      · have hM := ite_t c14 hM
        refine lv_iload_n hx hb dX0_routesThatAre_73 rfl (lv_at hl 3 rfl) ?_
        cases hM
        exact rt _ _ _ dX0_routesThatAre_74 rfl
      · have hM := ite_f c14 hM
        refine lv_aload_n hx hb dX0_routesThatAre_17 rfl (lv_at hl 0 rfl) ?_
        refine va_get (D := (dC, dI)) (ci := 0) (v := .ref a_t_routes) (C := RX0) (T := TX0) (N := 6) hx hb hU inlX0 hown hE.1 hP 0 rfl rfl 2 (by decide) (hU _ u_3_1) (fun _ h9 => h9) rfl dX0_routesThatAre_18 ?_
        refine lv_iload hx hb dX0_routesThatAre_21 (lv_at hl 4 rfl) ?_
        refine lv_iconst (v := (2 : Int32)) hx hb dX0_routesThatAre_23 (by decide) ?_
        obtain ⟨x24, h24, hM⟩ := bind_e hM
        refine rdV (As := [.int v4_5, .int (2 : Int32)]) (rest := []) (st2 := [.int x24]) ⟨hx, hb, hml, hown, hU⟩ hE (okX1_at a_t_routes a_t_routes_cells s_t_routes s_t_routes_cells v4_5 (2 : Int32) x24 h24) lk_X0_43 (hP.sub [1, 2] rfl) rfl rfl rfl hl.1 rfl (Nat.le_of_ble_eq_true rfl) ⟨Nat.le_of_ble_eq_true rfl, Nat.le_of_ble_eq_true rfl⟩ dX0_routesThatAre_24 ⟨Nat.le_refl _, Nat.le_refl _⟩ rfl ?_
        refine lv_istore (lv' := [(5, .int x24), (0, .ref a_t), (1, .int v1), (2, .int v2), (3, .int v3_5), (4, .int v4_5)]) hx hb dX0_routesThatAre_27 hl (by decide) rfl (fun ls hl => ?_)
        refine lv_aload_n hx hb dX0_routesThatAre_29 rfl (lv_at hl 1 rfl) ?_
        refine lv_iload hx hb dX0_routesThatAre_30 (lv_at hl 0 rfl) ?_
        refine lv_aload_n hx hb dX0_routesThatAre_32 rfl (lv_at hl 1 rfl) ?_
        refine va_get (D := (dC, dI)) (ci := 0) (v := .ref a_t_routes) (C := RX0) (T := TX0) (N := 6) hx hb hU inlX0 hown hE.1 hP 0 rfl rfl 2 (by decide) (hU _ u_3_1) (fun _ h9 => h9) rfl dX0_routesThatAre_33 ?_
        refine lv_iload hx hb dX0_routesThatAre_36 (lv_at hl 5 rfl) ?_
        refine lv_iconst (v := (1 : Int32)) hx hb dX0_routesThatAre_38 (by decide) ?_
        obtain ⟨x39, h39, hM⟩ := bind_e hM
        refine rdV (As := [.int v4_5, .int (1 : Int32)]) (rest := [.int x24, .ref a_t]) (st2 := [.int x39, .int x24, .ref a_t]) ⟨hx, hb, hml, hown, hU⟩ hE (okX1_at a_t_routes a_t_routes_cells s_t_routes s_t_routes_cells v4_5 (1 : Int32) x39 h39) lk_X0_43 (hP.sub [1, 2] rfl) rfl rfl rfl hl.1 rfl (Nat.le_of_ble_eq_true rfl) ⟨Nat.le_of_ble_eq_true rfl, Nat.le_of_ble_eq_true rfl⟩ dX0_routesThatAre_39 ⟨Nat.le_refl _, Nat.le_refl _⟩ rfl ?_
        refine lv_aload_n hx hb dX0_routesThatAre_42 rfl (lv_at hl 1 rfl) ?_
        refine va_get (D := (dC, dI)) (ci := 0) (v := .ref a_t_routes) (C := RX0) (T := TX0) (N := 6) hx hb hU inlX0 hown hE.1 hP 0 rfl rfl 2 (by decide) (hU _ u_3_1) (fun _ h9 => h9) rfl dX0_routesThatAre_43 ?_
        refine lv_iload hx hb dX0_routesThatAre_46 (lv_at hl 5 rfl) ?_
        refine lv_iconst (v := (3 : Int32)) hx hb dX0_routesThatAre_48 (by decide) ?_
        obtain ⟨x49, h49, hM⟩ := bind_e hM
        refine rdV (As := [.int v4_5, .int (3 : Int32)]) (rest := [.int x39, .int x24, .ref a_t]) (st2 := [.int x49, .int x39, .int x24, .ref a_t]) ⟨hx, hb, hml, hown, hU⟩ hE (okX1_at a_t_routes a_t_routes_cells s_t_routes s_t_routes_cells v4_5 (3 : Int32) x49 h49) lk_X0_43 (hP.sub [1, 2] rfl) rfl rfl rfl hl.1 rfl (Nat.le_of_ble_eq_true rfl) ⟨Nat.le_of_ble_eq_true rfl, Nat.le_of_ble_eq_true rfl⟩ dX0_routesThatAre_49 ⟨Nat.le_refl _, Nat.le_refl _⟩ rfl ?_
        refine lv_iload_n hx hb dX0_routesThatAre_52 rfl (lv_at hl 3 rfl) ?_
        obtain ⟨x53, h53, hM⟩ := bind_e hM
        refine rdV (As := [.int x24, .int x39, .int x49, .int v2]) (rest := []) (st2 := [.int x53]) ⟨hx, hb, hml, hown, hU⟩ hE (okX0_stateOf a_t a_t_papers a_t_grants a_t_routes a_t_grants_cells s_t s_t_grants s_t_grants_cells x24 x39 x49 v2 x53 h53) lk_X0_61 (hP.sub [0, 3, 4] rfl) rfl rfl rfl hl.1 rfl (Nat.le_of_ble_eq_true rfl) ⟨Nat.le_of_ble_eq_true rfl, Nat.le_of_ble_eq_true rfl⟩ dX0_routesThatAre_53 ⟨Nat.le_refl _, Nat.le_refl _⟩ rfl ?_
        refine lv_iload_n hx hb dX0_routesThatAre_56 rfl (lv_at hl 2 rfl) ?_
        refine lv_icmp_ne (tgt := 67) hx hb dX0_routesThatAre_57 (by decide) (fun c57 => ?_) (fun c57 => ?_)
        · have hM := ite_f c57 hM
          refine lv_iinc (v := (v4_5 + (1 : Int32))) (lv' := [(4, .int (v4_5 + (1 : Int32))), (5, .int x24), (0, .ref a_t), (1, .int v1), (2, .int v2), (3, .int v3_5)]) hx hb dX0_routesThatAre_67 hl (k := 5) rfl rfl (by decide) rfl (fun ls hl => ?_)
          refine lv_goto (tgt := 5) hx hb dX0_routesThatAre_70 (by decide) ?_
          exact ih_5 v3_5 (v4_5 + (1 : Int32)) hM ls (lv_sub hl [2, 3, 4, 5, 0] rfl)
        · have hM := ite_t c57 hM
          refine lv_iload_n hx hb dX0_routesThatAre_60 rfl (lv_at hl 4 rfl) ?_
          refine lv_iconst (v := (1 : Int32)) hx hb dX0_routesThatAre_61 (by decide) ?_
          refine lv_iload hx hb dX0_routesThatAre_62 (lv_at hl 5 rfl) ?_
          refine lv_ishl hx hb dX0_routesThatAre_64 ?_
          refine lv_ior hx hb dX0_routesThatAre_65 ?_
          obtain ⟨z66, ez66, hM⟩ := bnd_e hM
          rw [← ez66]
          refine lv_istore_n (lv' := [(3, .int z66), (5, .int x24), (0, .ref a_t), (1, .int v1), (2, .int v2), (4, .int v4_5)]) hx hb dX0_routesThatAre_66 rfl hl (by decide) rfl (fun ls hl => ?_)
          refine lv_iinc (v := (v4_5 + (1 : Int32))) (lv' := [(4, .int (v4_5 + (1 : Int32))), (3, .int z66), (5, .int x24), (0, .ref a_t), (1, .int v1), (2, .int v2)]) hx hb dX0_routesThatAre_67 hl (k := 5) rfl rfl (by decide) rfl (fun ls hl => ?_)
          refine lv_goto (tgt := 5) hx hb dX0_routesThatAre_70 (by decide) ?_
          exact ih_5 z66 (v4_5 + (1 : Int32)) hM ls (lv_sub hl [3, 4, 5, 1, 0] rfl)
  exact w_5 FU (0 : Int32) (0 : Int32) hM ls (lv_sub hl [2, 3, 4, 1, 0] rfl)
noncomputable def mX0_letIn (s_t : Int32 × Int32 × Int32) (s_t_papers : Int32 × Int32 × Int32) (s_t_papers_cells : Ar) (s_t_grants : Int32 × Int32 × Int32) (s_t_grants_cells : Ar) (s_t_routes : Int32 × Int32 × Int32) (s_t_routes_cells : Ar) (v1 : Int32) : Option (Int32) := (mX0_countingNow s_t s_t_papers s_t_papers_cells s_t_grants s_t_grants_cells).bind (fun x1 => bnd (((1 : Int32) <<< (s_t_routes.2.2 &&& 31)) - (1 : Int32)) (fun z16 => (mX0_routesThatAre s_t_routes s_t_routes_cells s_t_grants s_t_grants_cells (2 : Int32) x1).bind (fun x20 => (mX0_routesThatAre s_t_routes s_t_routes_cells s_t_grants s_t_grants_cells (0 : Int32) x1).bind (fun x28 => (if v1 = (0 : Int32) then some (z16) else (if v1 = (1 : Int32) then some ((z16 &&& (x28 ^^^ (-1 : Int32)))) else (if v1 = (2 : Int32) then some (x20) else (mX0_apartFrom s_t_routes s_t_routes_cells x20 ((z16 &&& (x20 ^^^ (-1 : Int32))) &&& (x28 ^^^ (-1 : Int32)))).bind (fun x88 => some ((x20 ||| x88))))))))))
set_option maxHeartbeats 4000000 in
set_option maxRecDepth 100000 in
theorem okX0_letIn {l : Launch} {dC : Nat → ClassId} {dI : Nat → Nat → Nat} {cI cC cZ : ClassId} (a_t a_t_papers a_t_grants a_t_routes a_t_papers_cells a_t_grants_cells a_t_routes_cells : Nat) (s_t : Int32 × Int32 × Int32) (s_t_papers : Int32 × Int32 × Int32) (s_t_papers_cells : Ar) (s_t_grants : Int32 × Int32 × Int32) (s_t_grants_cells : Ar) (s_t_routes : Int32 × Int32 × Int32) (s_t_routes_cells : Ar) (v1 : Int32) (res : Int32) (hM : mX0_letIn s_t s_t_papers s_t_papers_cells s_t_grants s_t_grants_cells s_t_routes s_t_routes_cells v1 = some res) : Rd l yX0_letIn cX0_letIn 6 (some .int) 3 73 (dC, dI) cI cC cZ [(a_t, .inr (0, [.ref a_t_papers, .ref a_t_grants, .ref a_t_routes, .int s_t.1, .int s_t.2.1, .int s_t.2.2])), (a_t_papers, .inr (1, [.int s_t_papers.1, .int s_t_papers.2.1, .ref a_t_papers_cells, .int s_t_papers.2.2])), (a_t_papers_cells, .inl (cI, s_t_papers_cells.1, .inl s_t_papers_cells.2)), (a_t_grants, .inr (1, [.int s_t_grants.1, .int s_t_grants.2.1, .ref a_t_grants_cells, .int s_t_grants.2.2])), (a_t_grants_cells, .inl (cI, s_t_grants_cells.1, .inl s_t_grants_cells.2)), (a_t_routes, .inr (1, [.int s_t_routes.1, .int s_t_routes.2.1, .ref a_t_routes_cells, .int s_t_routes.2.2])), (a_t_routes_cells, .inl (cI, s_t_routes_cells.1, .inl s_t_routes_cells.2))] [.ref a_t, .int v1] (some (.int res)) := by
  refine Rd.ofI (by decide) (Nat.le_of_ble_eq_true rfl) [(0, .ref a_t), (1, .int v1)] rfl ?_
  intro p e s m args below meth c ls Q hx hb hml hown hU hE hP rt hl
  have hown : s.vm.findClass RX0 = some m.cls := hown
  unfold mX0_letIn at hM
  refine lv_aload_n hx hb dX0_letIn_0 rfl (lv_at hl 0 rfl) ?_
  obtain ⟨x1, h1, hM⟩ := bind_e hM
  refine rdV (As := []) (rest := []) (st2 := [.int x1]) ⟨hx, hb, hml, hown, hU⟩ hE (okX0_countingNow a_t a_t_papers a_t_grants a_t_routes a_t_papers_cells a_t_grants_cells s_t s_t_papers s_t_papers_cells s_t_grants s_t_grants_cells x1 h1) lk_X0_68 (hP.sub [0, 1, 2, 3, 4] rfl) rfl rfl rfl hl.1 rfl (Nat.le_of_ble_eq_true rfl) ⟨Nat.le_of_ble_eq_true rfl, Nat.le_of_ble_eq_true rfl⟩ dX0_letIn_1 ⟨Nat.le_refl _, Nat.le_refl _⟩ rfl ?_
  refine lv_istore_n (lv' := [(2, .int x1), (0, .ref a_t), (1, .int v1)]) hx hb dX0_letIn_4 rfl hl (by decide) rfl (fun ls hl => ?_)
  refine lv_iconst (v := (1 : Int32)) hx hb dX0_letIn_5 (by decide) ?_
  refine lv_aload_n hx hb dX0_letIn_6 rfl (lv_at hl 1 rfl) ?_
  refine va_get (D := (dC, dI)) (ci := 0) (v := .ref a_t_routes) (C := RX0) (T := TX0) (N := 6) hx hb hU inlX0 hown hE.1 hP 0 rfl rfl 2 (by decide) (hU _ u_3_1) (fun _ h9 => h9) rfl dX0_letIn_7 ?_
  refine va_get (D := (dC, dI)) (ci := 1) (v := .int s_t_routes.2.2) (C := RX1) (T := TX1) (N := 4) hx hb hU inlX1 hown hE.1 hP 5 rfl rfl 3 (by decide) (hU _ u_12_3) (fun _ h9 => h9) rfl dX0_letIn_10 ?_
  refine lv_ishl hx hb dX0_letIn_13 ?_
  refine lv_iconst (v := (1 : Int32)) hx hb dX0_letIn_14 (by decide) ?_
  refine lv_isub hx hb dX0_letIn_15 ?_
  obtain ⟨z16, ez16, hM⟩ := bnd_e hM
  rw [← ez16]
  refine lv_istore_n (lv' := [(3, .int z16), (2, .int x1), (0, .ref a_t), (1, .int v1)]) hx hb dX0_letIn_16 rfl hl (by decide) rfl (fun ls hl => ?_)
  refine lv_aload_n hx hb dX0_letIn_17 rfl (lv_at hl 2 rfl) ?_
  refine lv_iconst (v := (2 : Int32)) hx hb dX0_letIn_18 (by decide) ?_
  refine lv_iload_n hx hb dX0_letIn_19 rfl (lv_at hl 1 rfl) ?_
  obtain ⟨x20, h20, hM⟩ := bind_e hM
  refine rdV (As := [.int (2 : Int32), .int x1]) (rest := []) (st2 := [.int x20]) ⟨hx, hb, hml, hown, hU⟩ hE (okX0_routesThatAre a_t a_t_papers a_t_grants a_t_routes a_t_routes_cells a_t_grants_cells s_t s_t_routes s_t_routes_cells s_t_grants s_t_grants_cells (2 : Int32) x1 x20 h20) lk_X0_65 (hP.sub [0, 5, 6, 3, 4] rfl) rfl rfl rfl hl.1 rfl (Nat.le_of_ble_eq_true rfl) ⟨Nat.le_of_ble_eq_true rfl, Nat.le_of_ble_eq_true rfl⟩ dX0_letIn_20 ⟨Nat.le_refl _, Nat.le_refl _⟩ rfl ?_
  refine lv_istore (lv' := [(4, .int x20), (3, .int z16), (2, .int x1), (0, .ref a_t), (1, .int v1)]) hx hb dX0_letIn_23 hl (by decide) rfl (fun ls hl => ?_)
  refine lv_aload_n hx hb dX0_letIn_25 rfl (lv_at hl 3 rfl) ?_
  refine lv_iconst (v := (0 : Int32)) hx hb dX0_letIn_26 (by decide) ?_
  refine lv_iload_n hx hb dX0_letIn_27 rfl (lv_at hl 2 rfl) ?_
  obtain ⟨x28, h28, hM⟩ := bind_e hM
  refine rdV (As := [.int (0 : Int32), .int x1]) (rest := []) (st2 := [.int x28]) ⟨hx, hb, hml, hown, hU⟩ hE (okX0_routesThatAre a_t a_t_papers a_t_grants a_t_routes a_t_routes_cells a_t_grants_cells s_t s_t_routes s_t_routes_cells s_t_grants s_t_grants_cells (0 : Int32) x1 x28 h28) lk_X0_65 (hP.sub [0, 5, 6, 3, 4] rfl) rfl rfl rfl hl.1 rfl (Nat.le_of_ble_eq_true rfl) ⟨Nat.le_of_ble_eq_true rfl, Nat.le_of_ble_eq_true rfl⟩ dX0_letIn_28 ⟨Nat.le_refl _, Nat.le_refl _⟩ rfl ?_
  refine lv_istore (lv' := [(5, .int x28), (4, .int x20), (3, .int z16), (2, .int x1), (0, .ref a_t), (1, .int v1)]) hx hb dX0_letIn_31 hl (by decide) rfl (fun ls hl => ?_)
  refine lv_iload_n hx hb dX0_letIn_33 rfl (lv_at hl 5 rfl) ?_
  by_cases c34_0 : v1 = (0 : Int32)
  · have hM := ite_t c34_0 hM
    refine lv_tableIn (off := 26) (tgt := 60) hx hb dX0_letIn_34 (by rw [c34_0]; decide) (by rw [c34_0]; decide) (by rw [c34_0]; rfl) (by decide) ?_
    refine lv_iload_n hx hb dX0_letIn_60 rfl (lv_at hl 2 rfl) ?_
    cases hM
    exact rt _ _ _ dX0_letIn_61 rfl
  have hM := ite_f c34_0 hM
  by_cases c34_1 : v1 = (1 : Int32)
  · have hM := ite_t c34_1 hM
    refine lv_tableIn (off := 28) (tgt := 62) hx hb dX0_letIn_34 (by rw [c34_1]; decide) (by rw [c34_1]; decide) (by rw [c34_1]; rfl) (by decide) ?_
    refine lv_iload_n hx hb dX0_letIn_62 rfl (lv_at hl 2 rfl) ?_
    refine lv_iload hx hb dX0_letIn_63 (lv_at hl 0 rfl) ?_
    refine lv_iconst (v := (-1 : Int32)) hx hb dX0_letIn_65 (by decide) ?_
    refine lv_ixor hx hb dX0_letIn_66 ?_
    refine lv_iand hx hb dX0_letIn_67 ?_
    cases hM
    exact rt _ _ _ dX0_letIn_68 rfl
  have hM := ite_f c34_1 hM
  by_cases c34_2 : v1 = (2 : Int32)
  · have hM := ite_t c34_2 hM
    refine lv_tableIn (off := 35) (tgt := 69) hx hb dX0_letIn_34 (by rw [c34_2]; decide) (by rw [c34_2]; decide) (by rw [c34_2]; rfl) (by decide) ?_
    refine lv_iload hx hb dX0_letIn_69 (lv_at hl 1 rfl) ?_
    cases hM
    exact rt _ _ _ dX0_letIn_71 rfl
  have hM := ite_f c34_2 hM
  refine lv_tableOut (tgt := 72) hx hb dX0_letIn_34 (sw_out (fun v h1 h2 h3 => by rcases (show v = 0 ∨ v = 1 ∨ v = 2 by omega) with rfl | rfl | rfl <;> first | exact c34_0 (Int32.toInt_inj.mp (h3.trans (by decide))) | exact c34_1 (Int32.toInt_inj.mp (h3.trans (by decide))) | exact c34_2 (Int32.toInt_inj.mp (h3.trans (by decide))))) (by decide) ?_
  refine lv_iload hx hb dX0_letIn_72 (lv_at hl 1 rfl) ?_
  refine lv_aload_n hx hb dX0_letIn_74 rfl (lv_at hl 4 rfl) ?_
  refine lv_iload hx hb dX0_letIn_75 (lv_at hl 1 rfl) ?_
  refine lv_iload_n hx hb dX0_letIn_77 rfl (lv_at hl 2 rfl) ?_
  refine lv_iload hx hb dX0_letIn_78 (lv_at hl 1 rfl) ?_
  refine lv_iconst (v := (-1 : Int32)) hx hb dX0_letIn_80 (by decide) ?_
  refine lv_ixor hx hb dX0_letIn_81 ?_
  refine lv_iand hx hb dX0_letIn_82 ?_
  refine lv_iload hx hb dX0_letIn_83 (lv_at hl 0 rfl) ?_
  refine lv_iconst (v := (-1 : Int32)) hx hb dX0_letIn_85 (by decide) ?_
  refine lv_ixor hx hb dX0_letIn_86 ?_
  refine lv_iand hx hb dX0_letIn_87 ?_
  obtain ⟨x88, h88, hM⟩ := bind_e hM
  refine rdV (As := [.int x20, .int ((z16 &&& (x20 ^^^ (-1 : Int32))) &&& (x28 ^^^ (-1 : Int32)))]) (rest := [.int x20]) (st2 := [.int x88, .int x20]) ⟨hx, hb, hml, hown, hU⟩ hE (okX0_apartFrom a_t a_t_papers a_t_grants a_t_routes a_t_routes_cells s_t s_t_routes s_t_routes_cells x20 ((z16 &&& (x20 ^^^ (-1 : Int32))) &&& (x28 ^^^ (-1 : Int32))) x88 h88) lk_X0_77 (hP.sub [0, 5, 6] rfl) rfl rfl rfl hl.1 rfl (Nat.le_of_ble_eq_true rfl) ⟨Nat.le_of_ble_eq_true rfl, Nat.le_of_ble_eq_true rfl⟩ dX0_letIn_88 ⟨Nat.le_refl _, Nat.le_refl _⟩ rfl ?_
  refine lv_ior hx hb dX0_letIn_91 ?_
  cases hM
  exact rt _ _ _ dX0_letIn_92 rfl
noncomputable def mX0_routeTo_b13 (s_t : Int32 × Int32 × Int32) (s_t_papers : Int32 × Int32 × Int32) (s_t_papers_cells : Ar) (s_t_grants : Int32 × Int32 × Int32) (s_t_grants_cells : Ar) (s_t_routes : Int32 × Int32 × Int32) (s_t_routes_cells : Ar) (v1 : Int32) (v3 : Int32) : Nat → Int32 → Int32 → Option (Int32)
  | 0, _, _ => none
  | n + 1, v4, v5 => (if s_t_routes.2.2 ≤ v5 then some (v4) else (mX3_bit v3 v5).bind (fun x28 => (if x28 = (1 : Int32) then (mX1_at s_t_routes s_t_routes_cells v5 (2 : Int32)).bind (fun x42 => (mX3_bit x42 v1).bind (fun x46 => (if x46 = (1 : Int32) then (if v4 = (-9 : Int32) then mX0_routeTo_b13 s_t s_t_papers s_t_papers_cells s_t_grants s_t_grants_cells s_t_routes s_t_routes_cells v1 v3 n v5 (v5 + (1 : Int32)) else (mX1_at s_t_routes s_t_routes_cells v5 (1 : Int32)).bind (fun x67 => (mX1_at s_t_routes s_t_routes_cells v4 (1 : Int32)).bind (fun x77 => (if x67 ≤ x77 then mX0_routeTo_b13 s_t s_t_papers s_t_papers_cells s_t_grants s_t_grants_cells s_t_routes s_t_routes_cells v1 v3 n v4 (v5 + (1 : Int32)) else mX0_routeTo_b13 s_t s_t_papers s_t_papers_cells s_t_grants s_t_grants_cells s_t_routes s_t_routes_cells v1 v3 n v5 (v5 + (1 : Int32)))))) else mX0_routeTo_b13 s_t s_t_papers s_t_papers_cells s_t_grants s_t_grants_cells s_t_routes s_t_routes_cells v1 v3 n v4 (v5 + (1 : Int32))))) else mX0_routeTo_b13 s_t s_t_papers s_t_papers_cells s_t_grants s_t_grants_cells s_t_routes s_t_routes_cells v1 v3 n v4 (v5 + (1 : Int32)))))
noncomputable def mX0_routeTo (s_t : Int32 × Int32 × Int32) (s_t_papers : Int32 × Int32 × Int32) (s_t_papers_cells : Ar) (s_t_grants : Int32 × Int32 × Int32) (s_t_grants_cells : Ar) (s_t_routes : Int32 × Int32 × Int32) (s_t_routes_cells : Ar) (v1 : Int32) (v2 : Int32) : Option (Int32) := (mX0_letIn s_t s_t_papers s_t_papers_cells s_t_grants s_t_grants_cells s_t_routes s_t_routes_cells v2).bind (fun x2 => mX0_routeTo_b13 s_t s_t_papers s_t_papers_cells s_t_grants s_t_grants_cells s_t_routes s_t_routes_cells v1 x2 FU (-9 : Int32) (0 : Int32))
set_option maxHeartbeats 4000000 in
set_option maxRecDepth 100000 in
theorem okX0_routeTo {l : Launch} {dC : Nat → ClassId} {dI : Nat → Nat → Nat} {cI cC cZ : ClassId} (a_t a_t_papers a_t_grants a_t_routes a_t_papers_cells a_t_grants_cells a_t_routes_cells : Nat) (s_t : Int32 × Int32 × Int32) (s_t_papers : Int32 × Int32 × Int32) (s_t_papers_cells : Ar) (s_t_grants : Int32 × Int32 × Int32) (s_t_grants_cells : Ar) (s_t_routes : Int32 × Int32 × Int32) (s_t_routes_cells : Ar) (v1 : Int32) (v2 : Int32) (res : Int32) (hM : mX0_routeTo s_t s_t_papers s_t_papers_cells s_t_grants s_t_grants_cells s_t_routes s_t_routes_cells v1 v2 = some res) : Rd l yX0_routeTo cX0_routeTo 6 (some .int) 4 98 (dC, dI) cI cC cZ [(a_t, .inr (0, [.ref a_t_papers, .ref a_t_grants, .ref a_t_routes, .int s_t.1, .int s_t.2.1, .int s_t.2.2])), (a_t_papers, .inr (1, [.int s_t_papers.1, .int s_t_papers.2.1, .ref a_t_papers_cells, .int s_t_papers.2.2])), (a_t_papers_cells, .inl (cI, s_t_papers_cells.1, .inl s_t_papers_cells.2)), (a_t_grants, .inr (1, [.int s_t_grants.1, .int s_t_grants.2.1, .ref a_t_grants_cells, .int s_t_grants.2.2])), (a_t_grants_cells, .inl (cI, s_t_grants_cells.1, .inl s_t_grants_cells.2)), (a_t_routes, .inr (1, [.int s_t_routes.1, .int s_t_routes.2.1, .ref a_t_routes_cells, .int s_t_routes.2.2])), (a_t_routes_cells, .inl (cI, s_t_routes_cells.1, .inl s_t_routes_cells.2))] [.ref a_t, .int v1, .int v2] (some (.int res)) := by
  refine Rd.ofI (by decide) (Nat.le_of_ble_eq_true rfl) [(0, .ref a_t), (1, .int v1), (2, .int v2)] rfl ?_
  intro p e s m args below meth c ls Q hx hb hml hown hU hE hP rt hl
  have hown : s.vm.findClass RX0 = some m.cls := hown
  unfold mX0_routeTo at hM
  refine lv_aload_n hx hb dX0_routeTo_0 rfl (lv_at hl 0 rfl) ?_
  refine lv_iload_n hx hb dX0_routeTo_1 rfl (lv_at hl 2 rfl) ?_
  obtain ⟨x2, h2, hM⟩ := bind_e hM
  refine rdV (As := [.int v2]) (rest := []) (st2 := [.int x2]) ⟨hx, hb, hml, hown, hU⟩ hE (okX0_letIn a_t a_t_papers a_t_grants a_t_routes a_t_papers_cells a_t_grants_cells a_t_routes_cells s_t s_t_papers s_t_papers_cells s_t_grants s_t_grants_cells s_t_routes s_t_routes_cells v2 x2 h2) lk_X0_80 (hP.sub [0, 1, 2, 3, 4, 5, 6] rfl) rfl rfl rfl hl.1 rfl (Nat.le_of_ble_eq_true rfl) ⟨Nat.le_of_ble_eq_true rfl, Nat.le_of_ble_eq_true rfl⟩ dX0_routeTo_2 ⟨Nat.le_refl _, Nat.le_refl _⟩ rfl ?_
  refine lv_istore_n (lv' := [(3, .int x2), (0, .ref a_t), (1, .int v1), (2, .int v2)]) hx hb dX0_routeTo_5 rfl hl (by decide) rfl (fun ls hl => ?_)
  refine lv_bipush (v := (-9 : Int32)) hx hb dX0_routeTo_6 (by decide) ?_
  refine lv_istore (lv' := [(4, .int (-9 : Int32)), (3, .int x2), (0, .ref a_t), (1, .int v1), (2, .int v2)]) hx hb dX0_routeTo_8 hl (by decide) rfl (fun ls hl => ?_)
  refine lv_iconst (v := (0 : Int32)) hx hb dX0_routeTo_10 (by decide) ?_
  refine lv_istore (lv' := [(5, .int (0 : Int32)), (4, .int (-9 : Int32)), (3, .int x2), (0, .ref a_t), (1, .int v1), (2, .int v2)]) hx hb dX0_routeTo_11 hl (by decide) rfl (fun ls hl => ?_)
  have w_13 : ∀ (n : Nat) (v4_13 : Int32) (v5_13 : Int32), mX0_routeTo_b13 s_t s_t_papers s_t_papers_cells s_t_grants s_t_grants_cells s_t_routes s_t_routes_cells v1 x2 n v4_13 v5_13 = some res → ∀ (ls : Array Slot), lv_has ls 6 [(0, .ref a_t), (1, .int v1), (3, .int x2), (4, .int v4_13), (5, .int v5_13)] → W p l e (RM 4 98) s m args below meth c s.heap [] 0 0 Q (F0 m 13 ls []) := by
    intro n
    induction n with
    | zero =>
      intro v4_13 v5_13 hM
      rw [mX0_routeTo_b13] at hM
      cases hM
    | succ n_13 ih_13 =>
      intro v4_13 v5_13 hM ls hl
      rw [mX0_routeTo_b13] at hM
      refine lv_iload hx hb dX0_routeTo_13 (lv_at hl 4 rfl) ?_
      refine lv_aload_n hx hb dX0_routeTo_15 rfl (lv_at hl 0 rfl) ?_
      refine va_get (D := (dC, dI)) (ci := 0) (v := .ref a_t_routes) (C := RX0) (T := TX0) (N := 6) hx hb hU inlX0 hown hE.1 hP 0 rfl rfl 2 (by decide) (hU _ u_3_1) (fun _ h9 => h9) rfl dX0_routeTo_16 ?_
      refine va_get (D := (dC, dI)) (ci := 1) (v := .int s_t_routes.2.2) (C := RX1) (T := TX1) (N := 4) hx hb hU inlX1 hown hE.1 hP 5 rfl rfl 3 (by decide) (hU _ u_12_3) (fun _ h9 => h9) rfl dX0_routeTo_19 ?_
      refine lv_icmp_ge (tgt := 93) hx hb dX0_routeTo_22 (by decide) (fun c22 => ?_) (fun c22 => ?_)
      · have hM := ite_t c22 hM
        refine lv_iload hx hb dX0_routeTo_93 (lv_at hl 3 rfl) ?_
        cases hM
        exact rt _ _ _ dX0_routeTo_95 rfl
      · have hM := ite_f c22 hM
        refine lv_iload_n hx hb dX0_routeTo_25 rfl (lv_at hl 2 rfl) ?_
        refine lv_iload hx hb dX0_routeTo_26 (lv_at hl 4 rfl) ?_
        obtain ⟨x28, h28, hM⟩ := bind_e hM
        refine rdN (As := [.int x2, .int v5_13]) (rest := []) (st2 := [.int x28]) ⟨hx, hb, hml, hown, hU⟩ hE hE.2.2.2.2.1 (okX3_bit x2 v5_13 x28 h28) kn_X3_bit (hP.sub [] rfl) rfl hl.1 rfl (Nat.le_of_ble_eq_true rfl) ⟨Nat.le_of_ble_eq_true rfl, Nat.le_of_ble_eq_true rfl⟩ dX0_routeTo_28 ⟨Nat.le_refl _, Nat.le_refl _⟩ rfl ?_
        refine lv_iconst (v := (1 : Int32)) hx hb dX0_routeTo_31 (by decide) ?_
        refine lv_icmp_ne (tgt := 87) hx hb dX0_routeTo_32 (by decide) (fun c32 => ?_) (fun c32 => ?_)
        · have hM := ite_f c32 hM
          refine lv_iinc (v := (v5_13 + (1 : Int32))) (lv' := [(5, .int (v5_13 + (1 : Int32))), (0, .ref a_t), (1, .int v1), (3, .int x2), (4, .int v4_13)]) hx hb dX0_routeTo_87 hl (k := 4) rfl rfl (by decide) rfl (fun ls hl => ?_)
          refine lv_goto (tgt := 13) hx hb dX0_routeTo_90 (by decide) ?_
          exact ih_13 v4_13 (v5_13 + (1 : Int32)) hM ls (lv_sub hl [1, 2, 3, 4, 0] rfl)
        · have hM := ite_t c32 hM
          refine lv_aload_n hx hb dX0_routeTo_35 rfl (lv_at hl 0 rfl) ?_
          refine va_get (D := (dC, dI)) (ci := 0) (v := .ref a_t_routes) (C := RX0) (T := TX0) (N := 6) hx hb hU inlX0 hown hE.1 hP 0 rfl rfl 2 (by decide) (hU _ u_3_1) (fun _ h9 => h9) rfl dX0_routeTo_36 ?_
          refine lv_iload hx hb dX0_routeTo_39 (lv_at hl 4 rfl) ?_
          refine lv_iconst (v := (2 : Int32)) hx hb dX0_routeTo_41 (by decide) ?_
          obtain ⟨x42, h42, hM⟩ := bind_e hM
          refine rdV (As := [.int v5_13, .int (2 : Int32)]) (rest := []) (st2 := [.int x42]) ⟨hx, hb, hml, hown, hU⟩ hE (okX1_at a_t_routes a_t_routes_cells s_t_routes s_t_routes_cells v5_13 (2 : Int32) x42 h42) lk_X0_43 (hP.sub [5, 6] rfl) rfl rfl rfl hl.1 rfl (Nat.le_of_ble_eq_true rfl) ⟨Nat.le_of_ble_eq_true rfl, Nat.le_of_ble_eq_true rfl⟩ dX0_routeTo_42 ⟨Nat.le_refl _, Nat.le_refl _⟩ rfl ?_
          refine lv_iload_n hx hb dX0_routeTo_45 rfl (lv_at hl 1 rfl) ?_
          obtain ⟨x46, h46, hM⟩ := bind_e hM
          refine rdN (As := [.int x42, .int v1]) (rest := []) (st2 := [.int x46]) ⟨hx, hb, hml, hown, hU⟩ hE hE.2.2.2.2.1 (okX3_bit x42 v1 x46 h46) kn_X3_bit (hP.sub [] rfl) rfl hl.1 rfl (Nat.le_of_ble_eq_true rfl) ⟨Nat.le_of_ble_eq_true rfl, Nat.le_of_ble_eq_true rfl⟩ dX0_routeTo_46 ⟨Nat.le_refl _, Nat.le_refl _⟩ rfl ?_
          refine lv_iconst (v := (1 : Int32)) hx hb dX0_routeTo_49 (by decide) ?_
          refine lv_icmp_ne (tgt := 87) hx hb dX0_routeTo_50 (by decide) (fun c50 => ?_) (fun c50 => ?_)
          · have hM := ite_f c50 hM
            refine lv_iinc (v := (v5_13 + (1 : Int32))) (lv' := [(5, .int (v5_13 + (1 : Int32))), (0, .ref a_t), (1, .int v1), (3, .int x2), (4, .int v4_13)]) hx hb dX0_routeTo_87 hl (k := 4) rfl rfl (by decide) rfl (fun ls hl => ?_)
            refine lv_goto (tgt := 13) hx hb dX0_routeTo_90 (by decide) ?_
            exact ih_13 v4_13 (v5_13 + (1 : Int32)) hM ls (lv_sub hl [1, 2, 3, 4, 0] rfl)
          · have hM := ite_t c50 hM
            refine lv_iload hx hb dX0_routeTo_53 (lv_at hl 3 rfl) ?_
            refine lv_bipush (v := (-9 : Int32)) hx hb dX0_routeTo_55 (by decide) ?_
            refine lv_icmp_eq (tgt := 83) hx hb dX0_routeTo_57 (by decide) (fun c57 => ?_) (fun c57 => ?_)
            · have hM := ite_t c57 hM
              refine lv_iload hx hb dX0_routeTo_83 (lv_at hl 4 rfl) ?_
              refine lv_istore (lv' := [(4, .int v5_13), (0, .ref a_t), (1, .int v1), (3, .int x2), (5, .int v5_13)]) hx hb dX0_routeTo_85 hl (by decide) rfl (fun ls hl => ?_)
              refine lv_iinc (v := (v5_13 + (1 : Int32))) (lv' := [(5, .int (v5_13 + (1 : Int32))), (4, .int v5_13), (0, .ref a_t), (1, .int v1), (3, .int x2)]) hx hb dX0_routeTo_87 hl (k := 4) rfl rfl (by decide) rfl (fun ls hl => ?_)
              refine lv_goto (tgt := 13) hx hb dX0_routeTo_90 (by decide) ?_
              exact ih_13 v5_13 (v5_13 + (1 : Int32)) hM ls (lv_sub hl [2, 3, 4, 1, 0] rfl)
            · have hM := ite_f c57 hM
              refine lv_aload_n hx hb dX0_routeTo_60 rfl (lv_at hl 0 rfl) ?_
              refine va_get (D := (dC, dI)) (ci := 0) (v := .ref a_t_routes) (C := RX0) (T := TX0) (N := 6) hx hb hU inlX0 hown hE.1 hP 0 rfl rfl 2 (by decide) (hU _ u_3_1) (fun _ h9 => h9) rfl dX0_routeTo_61 ?_
              refine lv_iload hx hb dX0_routeTo_64 (lv_at hl 4 rfl) ?_
              refine lv_iconst (v := (1 : Int32)) hx hb dX0_routeTo_66 (by decide) ?_
              obtain ⟨x67, h67, hM⟩ := bind_e hM
              refine rdV (As := [.int v5_13, .int (1 : Int32)]) (rest := []) (st2 := [.int x67]) ⟨hx, hb, hml, hown, hU⟩ hE (okX1_at a_t_routes a_t_routes_cells s_t_routes s_t_routes_cells v5_13 (1 : Int32) x67 h67) lk_X0_43 (hP.sub [5, 6] rfl) rfl rfl rfl hl.1 rfl (Nat.le_of_ble_eq_true rfl) ⟨Nat.le_of_ble_eq_true rfl, Nat.le_of_ble_eq_true rfl⟩ dX0_routeTo_67 ⟨Nat.le_refl _, Nat.le_refl _⟩ rfl ?_
              refine lv_aload_n hx hb dX0_routeTo_70 rfl (lv_at hl 0 rfl) ?_
              refine va_get (D := (dC, dI)) (ci := 0) (v := .ref a_t_routes) (C := RX0) (T := TX0) (N := 6) hx hb hU inlX0 hown hE.1 hP 0 rfl rfl 2 (by decide) (hU _ u_3_1) (fun _ h9 => h9) rfl dX0_routeTo_71 ?_
              refine lv_iload hx hb dX0_routeTo_74 (lv_at hl 3 rfl) ?_
              refine lv_iconst (v := (1 : Int32)) hx hb dX0_routeTo_76 (by decide) ?_
              obtain ⟨x77, h77, hM⟩ := bind_e hM
              refine rdV (As := [.int v4_13, .int (1 : Int32)]) (rest := [.int x67]) (st2 := [.int x77, .int x67]) ⟨hx, hb, hml, hown, hU⟩ hE (okX1_at a_t_routes a_t_routes_cells s_t_routes s_t_routes_cells v4_13 (1 : Int32) x77 h77) lk_X0_43 (hP.sub [5, 6] rfl) rfl rfl rfl hl.1 rfl (Nat.le_of_ble_eq_true rfl) ⟨Nat.le_of_ble_eq_true rfl, Nat.le_of_ble_eq_true rfl⟩ dX0_routeTo_77 ⟨Nat.le_refl _, Nat.le_refl _⟩ rfl ?_
              refine lv_icmp_le (tgt := 87) hx hb dX0_routeTo_80 (by decide) (fun c80 => ?_) (fun c80 => ?_)
              · have hM := ite_t c80 hM
                refine lv_iinc (v := (v5_13 + (1 : Int32))) (lv' := [(5, .int (v5_13 + (1 : Int32))), (0, .ref a_t), (1, .int v1), (3, .int x2), (4, .int v4_13)]) hx hb dX0_routeTo_87 hl (k := 4) rfl rfl (by decide) rfl (fun ls hl => ?_)
                refine lv_goto (tgt := 13) hx hb dX0_routeTo_90 (by decide) ?_
                exact ih_13 v4_13 (v5_13 + (1 : Int32)) hM ls (lv_sub hl [1, 2, 3, 4, 0] rfl)
              · have hM := ite_f c80 hM
                refine lv_iload hx hb dX0_routeTo_83 (lv_at hl 4 rfl) ?_
                refine lv_istore (lv' := [(4, .int v5_13), (0, .ref a_t), (1, .int v1), (3, .int x2), (5, .int v5_13)]) hx hb dX0_routeTo_85 hl (by decide) rfl (fun ls hl => ?_)
                refine lv_iinc (v := (v5_13 + (1 : Int32))) (lv' := [(5, .int (v5_13 + (1 : Int32))), (4, .int v5_13), (0, .ref a_t), (1, .int v1), (3, .int x2)]) hx hb dX0_routeTo_87 hl (k := 4) rfl rfl (by decide) rfl (fun ls hl => ?_)
                refine lv_goto (tgt := 13) hx hb dX0_routeTo_90 (by decide) ?_
                exact ih_13 v5_13 (v5_13 + (1 : Int32)) hM ls (lv_sub hl [2, 3, 4, 1, 0] rfl)
  exact w_13 FU (-9 : Int32) (0 : Int32) hM ls (lv_sub hl [3, 4, 2, 1, 0] rfl)
noncomputable def mX3_isLaw (v0 : Int32) : Option (Bool) := (if v0 < 0 then some (false) else (if (4 : Int32) ≤ v0 then some (false) else some (true)))
set_option maxHeartbeats 4000000 in
set_option maxRecDepth 100000 in
theorem okX3_isLaw {l : Launch} {dC : Nat → ClassId} {dI : Nat → Nat → Nat} {cI cC cZ : ClassId} (v0 : Int32) (res : Bool) (hM : mX3_isLaw v0 = some res) : Rd l yX3_isLaw cX3_isLaw 1 (some .boolean) 0 0 (dC, dI) cI cC cZ [] [.int v0] (some (.int (b2i res))) := by
  refine Rd.ofZ (by decide) (Nat.le_of_ble_eq_true rfl) [(0, .int v0)] rfl ?_
  intro p e s m args below meth c ls Q hx hb hml hown hU hE hP rt hl
  have hown : s.vm.findClass RX3 = some m.cls := hown
  unfold mX3_isLaw at hM
  refine lv_iload_n hx hb dX3_isLaw_0 rfl (lv_at hl 0 rfl) ?_
  refine lv_if_lt (tgt := 13) hx hb dX3_isLaw_1 (by decide) (fun c1 => ?_) (fun c1 => ?_)
  · have hM := ite_t c1 hM
    refine lv_iconst (v := (0 : Int32)) hx hb dX3_isLaw_13 (by decide) ?_
    cases hM
    exact rt false _ _ dX3_isLaw_14 rfl
  · have hM := ite_f c1 hM
    refine lv_iload_n hx hb dX3_isLaw_4 rfl (lv_at hl 0 rfl) ?_
    refine lv_iconst (v := (4 : Int32)) hx hb dX3_isLaw_5 (by decide) ?_
    refine lv_icmp_ge (tgt := 13) hx hb dX3_isLaw_6 (by decide) (fun c6 => ?_) (fun c6 => ?_)
    · have hM := ite_t c6 hM
      refine lv_iconst (v := (0 : Int32)) hx hb dX3_isLaw_13 (by decide) ?_
      cases hM
      exact rt false _ _ dX3_isLaw_14 rfl
    · have hM := ite_f c6 hM
      refine lv_iconst (v := (1 : Int32)) hx hb dX3_isLaw_9 (by decide) ?_
      refine lv_goto (tgt := 14) hx hb dX3_isLaw_10 (by decide) ?_
      cases hM
      exact rt true _ _ dX3_isLaw_14 rfl
noncomputable def mX3_isPlace (v0 : Int32) : Option (Bool) := (if v0 < 0 then some (false) else (if (32 : Int32) ≤ v0 then some (false) else some (true)))
set_option maxHeartbeats 4000000 in
set_option maxRecDepth 100000 in
theorem okX3_isPlace {l : Launch} {dC : Nat → ClassId} {dI : Nat → Nat → Nat} {cI cC cZ : ClassId} (v0 : Int32) (res : Bool) (hM : mX3_isPlace v0 = some res) : Rd l yX3_isPlace cX3_isPlace 1 (some .boolean) 0 0 (dC, dI) cI cC cZ [] [.int v0] (some (.int (b2i res))) := by
  refine Rd.ofZ (by decide) (Nat.le_of_ble_eq_true rfl) [(0, .int v0)] rfl ?_
  intro p e s m args below meth c ls Q hx hb hml hown hU hE hP rt hl
  have hown : s.vm.findClass RX3 = some m.cls := hown
  unfold mX3_isPlace at hM
  refine lv_iload_n hx hb dX3_isPlace_0 rfl (lv_at hl 0 rfl) ?_
  refine lv_if_lt (tgt := 14) hx hb dX3_isPlace_1 (by decide) (fun c1 => ?_) (fun c1 => ?_)
  · have hM := ite_t c1 hM
    refine lv_iconst (v := (0 : Int32)) hx hb dX3_isPlace_14 (by decide) ?_
    cases hM
    exact rt false _ _ dX3_isPlace_15 rfl
  · have hM := ite_f c1 hM
    refine lv_iload_n hx hb dX3_isPlace_4 rfl (lv_at hl 0 rfl) ?_
    refine lv_bipush (v := (32 : Int32)) hx hb dX3_isPlace_5 (by decide) ?_
    refine lv_icmp_ge (tgt := 14) hx hb dX3_isPlace_7 (by decide) (fun c7 => ?_) (fun c7 => ?_)
    · have hM := ite_t c7 hM
      refine lv_iconst (v := (0 : Int32)) hx hb dX3_isPlace_14 (by decide) ?_
      cases hM
      exact rt false _ _ dX3_isPlace_15 rfl
    · have hM := ite_f c7 hM
      refine lv_iconst (v := (1 : Int32)) hx hb dX3_isPlace_10 (by decide) ?_
      refine lv_goto (tgt := 15) hx hb dX3_isPlace_11 (by decide) ?_
      cases hM
      exact rt true _ _ dX3_isPlace_15 rfl
