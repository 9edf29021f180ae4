noncomputable def mX4_judged_b282 (s_t : Int32 × Int32 × Int32 × Int32 × Int32 × Int32 × Int32 × Int32 × Int32 × Int64) (s_t_trial : Nat → Int32) (s_t_paper : Nat → Int32) (t0 : Bool) (t1 : Bool) : Option (Bool × (Nat → Int32)) := (if (b2i t1) = (b2i t0) then some (true, s_t_trial) else some (false, s_t_trial))
noncomputable def mX4_judged_b331 (s_t : Int32 × Int32 × Int32 × Int32 × Int32 × Int32 × Int32 × Int32 × Int32 × Int64) (s_t_trial : Nat → Int32) (s_t_paper : Nat → Int32) (t0 : Bool) (t1 : Bool) : Option (Bool × (Nat → Int32)) := (if (b2i t1) = (b2i t0) then some (true, s_t_trial) else some (false, s_t_trial))
noncomputable def mX4_judged_b14 (s_t : Int32 × Int32 × Int32 × Int32 × Int32 × Int32 × Int32 × Int32 × Int32 × Int64) (s_t_trial : Nat → Int32) (s_t_paper : Nat → Int32) (v1 : Int32) (v2 : Int32) (v3 : Int32) (v4 : Int32) (t0 : Bool) : Option (Bool × (Nat → Int32)) := (if v1 = (1 : Int32) then (if v2 = 0 then some (false, s_t_trial) else (mX4_isPaper s_t v2).bind (fun x70 => (if x70 = true then (if t0 = true then rd s_t_trial 66 (63 : Int32) (fun x90 => wr s_t_trial 66 (63 : Int32) (x90 ^^^ ((1 : Int32) <<< (v2 &&& 31))) (fun x95 => some (true, x95))) else some (false, s_t_trial)) else some (false, s_t_trial)))) else (if v1 = (2 : Int32) then (if v2 = 0 then (if t0 = true then rd s_t_trial 66 (65 : Int32) (fun x113 => (if x113 = (9 : Int32) then some (false, s_t_trial) else rd s_t_trial 66 (65 : Int32) (fun x128 => wr s_t_trial 66 (65 : Int32) (x128 + (1 : Int32)) (fun x131 => some (true, x131))))) else some (false, s_t_trial)) else some (false, s_t_trial)) else (if v1 = (3 : Int32) then (mX4_isOrigin v2).bind (fun x135 => (if x135 = true then (if t0 = true then rd s_t_trial 66 (64 : Int32) (fun x155 => wr s_t_trial 66 (64 : Int32) (x155 ^^^ ((1 : Int32) <<< (v2 &&& 31))) (fun x160 => some (true, x160))) else some (false, s_t_trial)) else some (false, s_t_trial))) else (if v1 = (4 : Int32) then (if v3 = 0 then rd s_t_trial 66 (41 : Int32) (fun x174 => (if x174 ≤ v2 then some (false, s_t_trial) else (mX4_routeState s_t_trial s_t_paper v2).bind (fun x184 => (if x184 = v4 then some (true, s_t_trial) else some (false, s_t_trial))))) else some (false, s_t_trial)) else (if v1 = (5 : Int32) then (mX4_isLaw v2).bind (fun x199 => (if x199 = true then (if (32 : Int32) ≤ (((10 : Int32) * v3) + v4) then some (false, s_t_trial) else (mX4_goesOf s_t_trial s_t_paper (((10 : Int32) * v3) + v4) v2).bind (fun x230 => (if x230 = (-9 : Int32) then some (true, s_t_trial) else some (false, s_t_trial)))) else some (false, s_t_trial))) else (if v1 = (6 : Int32) then (if v3 = 0 then (mX4_isPaper s_t v2).bind (fun x250 => (if x250 = true then (if (2 : Int32) ≤ v4 then some (false, s_t_trial) else (mX4_stands s_t_paper s_t_trial v2).bind (fun x268 => (if v4 = (1 : Int32) then mX4_judged_b282 s_t s_t_trial s_t_paper true x268 else mX4_judged_b282 s_t s_t_trial s_t_paper false x268))) else some (false, s_t_trial))) else some (false, s_t_trial)) else (if v1 = (7 : Int32) then (if v3 = 0 then rd s_t_trial 66 (0 : Int32) (fun x301 => (if x301 ≤ v2 then some (false, s_t_trial) else (if (2 : Int32) ≤ v4 then some (false, s_t_trial) else (mX4_counts s_t_trial s_t_paper v2).bind (fun x317 => (if v4 = (1 : Int32) then mX4_judged_b331 s_t s_t_trial s_t_paper true x317 else mX4_judged_b331 s_t s_t_trial s_t_paper false x317))))) else some (false, s_t_trial)) else (if v1 = (8 : Int32) then rd s_t_trial 66 (41 : Int32) (fun x347 => (if x347 ≤ v2 then some (false, s_t_trial) else (if t0 = true then (mX4_takeRoute s_t_trial v2).bind (fun x363 => some (true, x363)) else some (false, s_t_trial)))) else some (false, s_t_trial)))))))))
noncomputable def mX4_judged (s_t : Int32 × Int32 × Int32 × Int32 × Int32 × Int32 × Int32 × Int32 × Int32 × Int64) (s_t_trial : Nat → Int32) (s_t_paper : Nat → Int32) (v1 : Int32) (v2 : Int32) (v3 : Int32) (v4 : Int32) : Option (Bool × (Nat → Int32)) := (if v3 = 0 then (if v4 = 0 then mX4_judged_b14 s_t s_t_trial s_t_paper v1 v2 v3 v4 true else mX4_judged_b14 s_t s_t_trial s_t_paper v1 v2 v3 v4 false) else mX4_judged_b14 s_t s_t_trial s_t_paper v1 v2 v3 v4 false)
set_option maxHeartbeats 4000000 in
set_option maxRecDepth 100000 in
theorem okX4_judged {l : Launch} {dC : Nat → ClassId} {dI : Nat → Nat → Nat} {cI cC cZ : ClassId} (a_t a_t_text a_t_paper a_t_now a_t_trial a_t_diary a_t_kept a_t_isKept a_t_seenAt a_t_worth a_t_readPaper a_t_read : Nat) (s_t : Int32 × Int32 × Int32 × Int32 × Int32 × Int32 × Int32 × Int32 × Int32 × Int64) (s_t_trial : Nat → Int32) (s_t_paper : Nat → Int32) (v1 : Int32) (v2 : Int32) (v3 : Int32) (v4 : Int32) (res : Bool × (Nat → Int32)) (hM : mX4_judged s_t s_t_trial s_t_paper v1 v2 v3 v4 = some res) : Mu l yX4_judged cX4_judged 6 (some .boolean) 9 221 (dC, dI) cI cC cZ [(a_t, .inr (4, [.ref a_t_text, .int s_t.1, .int s_t.2.1, .ref a_t_paper, .ref a_t_now, .ref a_t_trial, .ref a_t_diary, .int s_t.2.2.1, .int s_t.2.2.2.1, .ref a_t_kept, .ref a_t_isKept, .ref a_t_seenAt, .int s_t.2.2.2.2.1, .long s_t.2.2.2.2.2.2.2.2.2, .ref a_t_worth, .int s_t.2.2.2.2.2.1, .int s_t.2.2.2.2.2.2.1, .ref a_t_readPaper, .ref a_t_read, .int s_t.2.2.2.2.2.2.2.1, .int s_t.2.2.2.2.2.2.2.2.1])), (a_t_trial, .inl (cI, 66, .inl s_t_trial)), (a_t_paper, .inl (cI, 24, .inl s_t_paper))] [(a_t, .inr (4, [.ref a_t_text, .int s_t.1, .int s_t.2.1, .ref a_t_paper, .ref a_t_now, .ref a_t_trial, .ref a_t_diary, .int s_t.2.2.1, .int s_t.2.2.2.1, .ref a_t_kept, .ref a_t_isKept, .ref a_t_seenAt, .int s_t.2.2.2.2.1, .long s_t.2.2.2.2.2.2.2.2.2, .ref a_t_worth, .int s_t.2.2.2.2.2.1, .int s_t.2.2.2.2.2.2.1, .ref a_t_readPaper, .ref a_t_read, .int s_t.2.2.2.2.2.2.2.1, .int s_t.2.2.2.2.2.2.2.2.1])), (a_t_trial, .inl (cI, 66, .inl res.2)), (a_t_paper, .inl (cI, 24, .inl s_t_paper))] [.ref a_t, .int v1, .int v2, .int v3, .int v4] (some (.int (b2i res.1))) := by
  refine Mu.ofZ (by decide) (Nat.le_of_ble_eq_true rfl) [(0, .ref a_t), (1, .int v1), (2, .int v2), (3, .int v3), (4, .int v4)] rfl ?_
  intro p e s m args below meth c ls Q A hx hb hml hown hU hE hP hD hS hA rt hl
  have hown : s.vm.findClass RX4 = some m.cls := hown
  unfold mX4_judged at hM
  refine lv_iload_n hx hb dX4_judged_0 rfl (lv_at hl 3 rfl) ?_
  have w_14 : ∀ (t0_14 : Bool), mX4_judged_b14 s_t s_t_trial s_t_paper v1 v2 v3 v4 t0_14 = some res → ∀ (ls : Array Slot) (H : Heap) (locs : List Loc), va_P (dC, dI) vwCl [(a_t, .inr (4, [.ref a_t_text, .int s_t.1, .int s_t.2.1, .ref a_t_paper, .ref a_t_now, .ref a_t_trial, .ref a_t_diary, .int s_t.2.2.1, .int s_t.2.2.2.1, .ref a_t_kept, .ref a_t_isKept, .ref a_t_seenAt, .int s_t.2.2.2.2.1, .long s_t.2.2.2.2.2.2.2.2.2, .ref a_t_worth, .int s_t.2.2.2.2.2.1, .int s_t.2.2.2.2.2.2.1, .ref a_t_readPaper, .ref a_t_read, .int s_t.2.2.2.2.2.2.2.1, .int s_t.2.2.2.2.2.2.2.2.1])), (a_t_trial, .inl (cI, 66, .inl s_t_trial)), (a_t_paper, .inl (cI, 24, .inl s_t_paper))] H → va_D A [(a_t, .inr (4, [.ref a_t_text, .int s_t.1, .int s_t.2.1, .ref a_t_paper, .ref a_t_now, .ref a_t_trial, .ref a_t_diary, .int s_t.2.2.1, .int s_t.2.2.2.1, .ref a_t_kept, .ref a_t_isKept, .ref a_t_seenAt, .int s_t.2.2.2.2.1, .long s_t.2.2.2.2.2.2.2.2.2, .ref a_t_worth, .int s_t.2.2.2.2.2.1, .int s_t.2.2.2.2.2.2.1, .ref a_t_readPaper, .ref a_t_read, .int s_t.2.2.2.2.2.2.2.1, .int s_t.2.2.2.2.2.2.2.2.1])), (a_t_trial, .inl (cI, 66, .inl s_t_trial)), (a_t_paper, .inl (cI, 24, .inl s_t_paper))] → va_S A s.heap H locs → lv_has ls 6 [(0, .ref a_t), (1, .int v1), (2, .int v2), (3, .int v3), (4, .int v4)] → W p l e (RM 9 221) s m args below meth c H locs 0 0 Q (F0 m 14 ls [.int (b2i t0_14)]) := by
    intro t0_14 hM ls H locs hP hD hS hl
    unfold mX4_judged_b14 at hM
    refine lv_istore (lv' := [(5, .int (b2i t0_14)), (0, .ref a_t), (1, .int v1), (2, .int v2), (3, .int v3), (4, .int v4)]) hx hb dX4_judged_14 hl (by decide) rfl (fun ls hl => ?_)
    refine lv_iload_n hx hb dX4_judged_16 rfl (lv_at hl 2 rfl) ?_
    by_cases c17_0 : v1 = (1 : Int32)
    · have hM := ite_t c17_0 hM
      refine lv_tableIn (off := 47) (tgt := 64) hx hb dX4_judged_17 (by rw [c17_0]; decide) (by rw [c17_0]; decide) (by rw [c17_0]; rfl) (by decide) ?_
      refine lv_iload_n hx hb dX4_judged_64 rfl (lv_at hl 3 rfl) ?_
      refine lv_if_eq (tgt := 81) hx hb dX4_judged_65 (by decide) (fun c65 => ?_) (fun c65 => ?_)
      · have hM := ite_t c65 hM
        refine lv_iconst (v := (0 : Int32)) hx hb dX4_judged_81 (by decide) ?_
        cases hM
        exact rt false _ _ _ _ hP hS dX4_judged_82 rfl
      · have hM := ite_f c65 hM
        refine lv_aload_n hx hb dX4_judged_68 rfl (lv_at hl 1 rfl) ?_
        refine lv_iload_n hx hb dX4_judged_69 rfl (lv_at hl 3 rfl) ?_
        obtain ⟨x70, h70, hM⟩ := bind_e hM
        refine rdV (As := [.int v2]) (rest := []) (st2 := [.int (b2i x70)]) ⟨hx, hb, hml, hown, hU⟩ hE (okX4_isPaper a_t a_t_text a_t_paper a_t_now a_t_trial a_t_diary a_t_kept a_t_isKept a_t_seenAt a_t_worth a_t_readPaper a_t_read s_t v2 x70 h70) lk_X4_165 (hP.sub [0] rfl) rfl rfl rfl hl.1 rfl (Nat.le_of_ble_eq_true rfl) ⟨Nat.le_of_ble_eq_true rfl, Nat.le_of_ble_eq_true rfl⟩ dX4_judged_70 ⟨Nat.le_refl _, Nat.le_refl _⟩ rfl ?_
        refine lv_if_eq (tgt := 81) hx hb dX4_judged_73 (by decide) (fun c73 => ?_) (fun c73 => ?_)
        · have hM := ite_f (b2i_eq0 c73) hM
          refine lv_iconst (v := (0 : Int32)) hx hb dX4_judged_81 (by decide) ?_
          cases hM
          exact rt false _ _ _ _ hP hS dX4_judged_82 rfl
        · have hM := ite_t (b2i_ne0 c73) hM
          refine lv_iload hx hb dX4_judged_76 (lv_at hl 0 rfl) ?_
          refine lv_if_ne (tgt := 83) hx hb dX4_judged_78 (by decide) (fun c78 => ?_) (fun c78 => ?_)
          · have hM := ite_t (b2i_ne0 c78) hM
            refine lv_aload_n hx hb dX4_judged_83 rfl (lv_at hl 1 rfl) ?_
            refine va_get (D := (dC, dI)) (ci := 4) (v := .ref a_t_trial) (C := RX4) (T := TX4) (N := 21) hx hb hU inlX4 hown hE.1 hP 0 rfl rfl 5 (by decide) (hU _ u_4_16) (fun _ h9 => h9) rfl dX4_judged_84 ?_
            refine lv_bipush (v := (63 : Int32)) hx hb dX4_judged_87 (by decide) ?_
            refine lv_dup2_11 hx hb dX4_judged_89 rfl rfl ?_
            obtain ⟨g90, hM⟩ := rd_e hM
            refine va_iald hx hb hE.1 hP 1 0 rfl rfl g90 dX4_judged_90 ?_
            refine lv_iconst (v := (1 : Int32)) hx hb dX4_judged_91 (by decide) ?_
            refine lv_iload_n hx hb dX4_judged_92 rfl (lv_at hl 3 rfl) ?_
            refine lv_ishl hx hb dX4_judged_93 ?_
            refine lv_ixor hx hb dX4_judged_94 ?_
            obtain ⟨g95, hM⟩ := wr_e hM
            refine va_iast hx hb hE.1 hP hD hS 1 0 rfl rfl g95 dX4_judged_95 (fun H locs hP hD hS => ?_)
            have hP : va_P (dC, dI) vwCl [(a_t, .inr (4, [.ref a_t_text, .int s_t.1, .int s_t.2.1, .ref a_t_paper, .ref a_t_now, .ref a_t_trial, .ref a_t_diary, .int s_t.2.2.1, .int s_t.2.2.2.1, .ref a_t_kept, .ref a_t_isKept, .ref a_t_seenAt, .int s_t.2.2.2.2.1, .long s_t.2.2.2.2.2.2.2.2.2, .ref a_t_worth, .int s_t.2.2.2.2.2.1, .int s_t.2.2.2.2.2.2.1, .ref a_t_readPaper, .ref a_t_read, .int s_t.2.2.2.2.2.2.2.1, .int s_t.2.2.2.2.2.2.2.2.1])), (a_t_trial, .inl (cI, 66, .inl (upd s_t_trial (63 : Int32).toNatClampNeg ((s_t_trial (63 : Int32).toNatClampNeg) ^^^ ((1 : Int32) <<< (v2 &&& 31)))))), (a_t_paper, .inl (cI, 24, .inl s_t_paper))] H := hP
            have hD : va_D A [(a_t, .inr (4, [.ref a_t_text, .int s_t.1, .int s_t.2.1, .ref a_t_paper, .ref a_t_now, .ref a_t_trial, .ref a_t_diary, .int s_t.2.2.1, .int s_t.2.2.2.1, .ref a_t_kept, .ref a_t_isKept, .ref a_t_seenAt, .int s_t.2.2.2.2.1, .long s_t.2.2.2.2.2.2.2.2.2, .ref a_t_worth, .int s_t.2.2.2.2.2.1, .int s_t.2.2.2.2.2.2.1, .ref a_t_readPaper, .ref a_t_read, .int s_t.2.2.2.2.2.2.2.1, .int s_t.2.2.2.2.2.2.2.2.1])), (a_t_trial, .inl (cI, 66, .inl (upd s_t_trial (63 : Int32).toNatClampNeg ((s_t_trial (63 : Int32).toNatClampNeg) ^^^ ((1 : Int32) <<< (v2 &&& 31)))))), (a_t_paper, .inl (cI, 24, .inl s_t_paper))] := hD
            refine lv_iconst (v := (1 : Int32)) hx hb dX4_judged_96 (by decide) ?_
            cases hM
            exact rt true _ _ _ _ hP hS dX4_judged_97 rfl
          · have hM := ite_f (b2i_eq0 c78) hM
            refine lv_iconst (v := (0 : Int32)) hx hb dX4_judged_81 (by decide) ?_
            cases hM
            exact rt false _ _ _ _ hP hS dX4_judged_82 rfl
    have hM := ite_f c17_0 hM
    by_cases c17_1 : v1 = (2 : Int32)
    · have hM := ite_t c17_1 hM
      refine lv_tableIn (off := 81) (tgt := 98) hx hb dX4_judged_17 (by rw [c17_1]; decide) (by rw [c17_1]; decide) (by rw [c17_1]; rfl) (by decide) ?_
      refine lv_iload_n hx hb dX4_judged_98 rfl (lv_at hl 3 rfl) ?_
      refine lv_if_ne (tgt := 119) hx hb dX4_judged_99 (by decide) (fun c99 => ?_) (fun c99 => ?_)
      · have hM := ite_f c99 hM
        refine lv_iconst (v := (0 : Int32)) hx hb dX4_judged_119 (by decide) ?_
        cases hM
        exact rt false _ _ _ _ hP hS dX4_judged_120 rfl
      · have hM := ite_t c99 hM
        refine lv_iload hx hb dX4_judged_102 (lv_at hl 0 rfl) ?_
        refine lv_if_eq (tgt := 119) hx hb dX4_judged_104 (by decide) (fun c104 => ?_) (fun c104 => ?_)
        · have hM := ite_f (b2i_eq0 c104) hM
          refine lv_iconst (v := (0 : Int32)) hx hb dX4_judged_119 (by decide) ?_
          cases hM
          exact rt false _ _ _ _ hP hS dX4_judged_120 rfl
        · have hM := ite_t (b2i_ne0 c104) hM
          refine lv_aload_n hx hb dX4_judged_107 rfl (lv_at hl 1 rfl) ?_
          refine va_get (D := (dC, dI)) (ci := 4) (v := .ref a_t_trial) (C := RX4) (T := TX4) (N := 21) hx hb hU inlX4 hown hE.1 hP 0 rfl rfl 5 (by decide) (hU _ u_4_16) (fun _ h9 => h9) rfl dX4_judged_108 ?_
          refine lv_bipush (v := (65 : Int32)) hx hb dX4_judged_111 (by decide) ?_
          obtain ⟨g113, hM⟩ := rd_e hM
          refine va_iald hx hb hE.1 hP 1 0 rfl rfl g113 dX4_judged_113 ?_
          refine lv_bipush (v := (9 : Int32)) hx hb dX4_judged_114 (by decide) ?_
          refine lv_icmp_ne (tgt := 121) hx hb dX4_judged_116 (by decide) (fun c116 => ?_) (fun c116 => ?_)
          · have hM := ite_f c116 hM
            refine lv_aload_n hx hb dX4_judged_121 rfl (lv_at hl 1 rfl) ?_
            refine va_get (D := (dC, dI)) (ci := 4) (v := .ref a_t_trial) (C := RX4) (T := TX4) (N := 21) hx hb hU inlX4 hown hE.1 hP 0 rfl rfl 5 (by decide) (hU _ u_4_16) (fun _ h9 => h9) rfl dX4_judged_122 ?_
            refine lv_bipush (v := (65 : Int32)) hx hb dX4_judged_125 (by decide) ?_
            refine lv_dup2_11 hx hb dX4_judged_127 rfl rfl ?_
            obtain ⟨g128, hM⟩ := rd_e hM
            refine va_iald hx hb hE.1 hP 1 0 rfl rfl g128 dX4_judged_128 ?_
            refine lv_iconst (v := (1 : Int32)) hx hb dX4_judged_129 (by decide) ?_
            refine lv_iadd hx hb dX4_judged_130 ?_
            obtain ⟨g131, hM⟩ := wr_e hM
            refine va_iast hx hb hE.1 hP hD hS 1 0 rfl rfl g131 dX4_judged_131 (fun H locs hP hD hS => ?_)
            have hP : va_P (dC, dI) vwCl [(a_t, .inr (4, [.ref a_t_text, .int s_t.1, .int s_t.2.1, .ref a_t_paper, .ref a_t_now, .ref a_t_trial, .ref a_t_diary, .int s_t.2.2.1, .int s_t.2.2.2.1, .ref a_t_kept, .ref a_t_isKept, .ref a_t_seenAt, .int s_t.2.2.2.2.1, .long s_t.2.2.2.2.2.2.2.2.2, .ref a_t_worth, .int s_t.2.2.2.2.2.1, .int s_t.2.2.2.2.2.2.1, .ref a_t_readPaper, .ref a_t_read, .int s_t.2.2.2.2.2.2.2.1, .int s_t.2.2.2.2.2.2.2.2.1])), (a_t_trial, .inl (cI, 66, .inl (upd s_t_trial (65 : Int32).toNatClampNeg ((s_t_trial (65 : Int32).toNatClampNeg) + (1 : Int32))))), (a_t_paper, .inl (cI, 24, .inl s_t_paper))] H := hP
            have hD : va_D A [(a_t, .inr (4, [.ref a_t_text, .int s_t.1, .int s_t.2.1, .ref a_t_paper, .ref a_t_now, .ref a_t_trial, .ref a_t_diary, .int s_t.2.2.1, .int s_t.2.2.2.1, .ref a_t_kept, .ref a_t_isKept, .ref a_t_seenAt, .int s_t.2.2.2.2.1, .long s_t.2.2.2.2.2.2.2.2.2, .ref a_t_worth, .int s_t.2.2.2.2.2.1, .int s_t.2.2.2.2.2.2.1, .ref a_t_readPaper, .ref a_t_read, .int s_t.2.2.2.2.2.2.2.1, .int s_t.2.2.2.2.2.2.2.2.1])), (a_t_trial, .inl (cI, 66, .inl (upd s_t_trial (65 : Int32).toNatClampNeg ((s_t_trial (65 : Int32).toNatClampNeg) + (1 : Int32))))), (a_t_paper, .inl (cI, 24, .inl s_t_paper))] := hD
            refine lv_iconst (v := (1 : Int32)) hx hb dX4_judged_132 (by decide) ?_
            cases hM
            exact rt true _ _ _ _ hP hS dX4_judged_133 rfl
          · have hM := ite_t c116 hM
            refine lv_iconst (v := (0 : Int32)) hx hb dX4_judged_119 (by decide) ?_
            cases hM
            exact rt false _ _ _ _ hP hS dX4_judged_120 rfl
    have hM := ite_f c17_1 hM
    by_cases c17_2 : v1 = (3 : Int32)
    · have hM := ite_t c17_2 hM
      refine lv_tableIn (off := 117) (tgt := 134) hx hb dX4_judged_17 (by rw [c17_2]; decide) (by rw [c17_2]; decide) (by rw [c17_2]; rfl) (by decide) ?_
      refine lv_iload_n hx hb dX4_judged_134 rfl (lv_at hl 3 rfl) ?_
      obtain ⟨x135, h135, hM⟩ := bind_e hM
      refine rdS (As := [.int v2]) (rest := []) (st2 := [.int (b2i x135)]) ⟨hx, hb, hml, hown, hU⟩ hE (okX4_isOrigin v2 x135 h135) lk_X4_185 (hP.sub [] rfl) rfl hl.1 rfl (Nat.le_of_ble_eq_true rfl) ⟨Nat.le_of_ble_eq_true rfl, Nat.le_of_ble_eq_true rfl⟩ dX4_judged_135 ⟨Nat.le_refl _, Nat.le_refl _⟩ rfl ?_
      refine lv_if_eq (tgt := 146) hx hb dX4_judged_138 (by decide) (fun c138 => ?_) (fun c138 => ?_)
      · have hM := ite_f (b2i_eq0 c138) hM
        refine lv_iconst (v := (0 : Int32)) hx hb dX4_judged_146 (by decide) ?_
        cases hM
        exact rt false _ _ _ _ hP hS dX4_judged_147 rfl
      · have hM := ite_t (b2i_ne0 c138) hM
        refine lv_iload hx hb dX4_judged_141 (lv_at hl 0 rfl) ?_
        refine lv_if_ne (tgt := 148) hx hb dX4_judged_143 (by decide) (fun c143 => ?_) (fun c143 => ?_)
        · have hM := ite_t (b2i_ne0 c143) hM
          refine lv_aload_n hx hb dX4_judged_148 rfl (lv_at hl 1 rfl) ?_
          refine va_get (D := (dC, dI)) (ci := 4) (v := .ref a_t_trial) (C := RX4) (T := TX4) (N := 21) hx hb hU inlX4 hown hE.1 hP 0 rfl rfl 5 (by decide) (hU _ u_4_16) (fun _ h9 => h9) rfl dX4_judged_149 ?_
          refine lv_bipush (v := (64 : Int32)) hx hb dX4_judged_152 (by decide) ?_
          refine lv_dup2_11 hx hb dX4_judged_154 rfl rfl ?_
          obtain ⟨g155, hM⟩ := rd_e hM
          refine va_iald hx hb hE.1 hP 1 0 rfl rfl g155 dX4_judged_155 ?_
          refine lv_iconst (v := (1 : Int32)) hx hb dX4_judged_156 (by decide) ?_
          refine lv_iload_n hx hb dX4_judged_157 rfl (lv_at hl 3 rfl) ?_
          refine lv_ishl hx hb dX4_judged_158 ?_
          refine lv_ixor hx hb dX4_judged_159 ?_
          obtain ⟨g160, hM⟩ := wr_e hM
          refine va_iast hx hb hE.1 hP hD hS 1 0 rfl rfl g160 dX4_judged_160 (fun H locs hP hD hS => ?_)
          have hP : va_P (dC, dI) vwCl [(a_t, .inr (4, [.ref a_t_text, .int s_t.1, .int s_t.2.1, .ref a_t_paper, .ref a_t_now, .ref a_t_trial, .ref a_t_diary, .int s_t.2.2.1, .int s_t.2.2.2.1, .ref a_t_kept, .ref a_t_isKept, .ref a_t_seenAt, .int s_t.2.2.2.2.1, .long s_t.2.2.2.2.2.2.2.2.2, .ref a_t_worth, .int s_t.2.2.2.2.2.1, .int s_t.2.2.2.2.2.2.1, .ref a_t_readPaper, .ref a_t_read, .int s_t.2.2.2.2.2.2.2.1, .int s_t.2.2.2.2.2.2.2.2.1])), (a_t_trial, .inl (cI, 66, .inl (upd s_t_trial (64 : Int32).toNatClampNeg ((s_t_trial (64 : Int32).toNatClampNeg) ^^^ ((1 : Int32) <<< (v2 &&& 31)))))), (a_t_paper, .inl (cI, 24, .inl s_t_paper))] H := hP
          have hD : va_D A [(a_t, .inr (4, [.ref a_t_text, .int s_t.1, .int s_t.2.1, .ref a_t_paper, .ref a_t_now, .ref a_t_trial, .ref a_t_diary, .int s_t.2.2.1, .int s_t.2.2.2.1, .ref a_t_kept, .ref a_t_isKept, .ref a_t_seenAt, .int s_t.2.2.2.2.1, .long s_t.2.2.2.2.2.2.2.2.2, .ref a_t_worth, .int s_t.2.2.2.2.2.1, .int s_t.2.2.2.2.2.2.1, .ref a_t_readPaper, .ref a_t_read, .int s_t.2.2.2.2.2.2.2.1, .int s_t.2.2.2.2.2.2.2.2.1])), (a_t_trial, .inl (cI, 66, .inl (upd s_t_trial (64 : Int32).toNatClampNeg ((s_t_trial (64 : Int32).toNatClampNeg) ^^^ ((1 : Int32) <<< (v2 &&& 31)))))), (a_t_paper, .inl (cI, 24, .inl s_t_paper))] := hD
          refine lv_iconst (v := (1 : Int32)) hx hb dX4_judged_161 (by decide) ?_
          cases hM
          exact rt true _ _ _ _ hP hS dX4_judged_162 rfl
        · have hM := ite_f (b2i_eq0 c143) hM
          refine lv_iconst (v := (0 : Int32)) hx hb dX4_judged_146 (by decide) ?_
          cases hM
          exact rt false _ _ _ _ hP hS dX4_judged_147 rfl
    have hM := ite_f c17_2 hM
    by_cases c17_3 : v1 = (4 : Int32)
    · have hM := ite_t c17_3 hM
      refine lv_tableIn (off := 146) (tgt := 163) hx hb dX4_judged_17 (by rw [c17_3]; decide) (by rw [c17_3]; decide) (by rw [c17_3]; rfl) (by decide) ?_
      refine lv_iload_n hx hb dX4_judged_163 rfl (lv_at hl 4 rfl) ?_
      refine lv_if_ne (tgt := 196) hx hb dX4_judged_164 (by decide) (fun c164 => ?_) (fun c164 => ?_)
      · have hM := ite_f c164 hM
        refine lv_iconst (v := (0 : Int32)) hx hb dX4_judged_196 (by decide) ?_
        cases hM
        exact rt false _ _ _ _ hP hS dX4_judged_197 rfl
      · have hM := ite_t c164 hM
        refine lv_iload_n hx hb dX4_judged_167 rfl (lv_at hl 3 rfl) ?_
        refine lv_aload_n hx hb dX4_judged_168 rfl (lv_at hl 1 rfl) ?_
        refine va_get (D := (dC, dI)) (ci := 4) (v := .ref a_t_trial) (C := RX4) (T := TX4) (N := 21) hx hb hU inlX4 hown hE.1 hP 0 rfl rfl 5 (by decide) (hU _ u_4_16) (fun _ h9 => h9) rfl dX4_judged_169 ?_
        refine lv_bipush (v := (41 : Int32)) hx hb dX4_judged_172 (by decide) ?_
        obtain ⟨g174, hM⟩ := rd_e hM
        refine va_iald hx hb hE.1 hP 1 0 rfl rfl g174 dX4_judged_174 ?_
        refine lv_icmp_ge (tgt := 196) hx hb dX4_judged_175 (by decide) (fun c175 => ?_) (fun c175 => ?_)
        · have hM := ite_t c175 hM
          refine lv_iconst (v := (0 : Int32)) hx hb dX4_judged_196 (by decide) ?_
          cases hM
          exact rt false _ _ _ _ hP hS dX4_judged_197 rfl
        · have hM := ite_f c175 hM
          refine lv_aload_n hx hb dX4_judged_178 rfl (lv_at hl 1 rfl) ?_
          refine lv_aload_n hx hb dX4_judged_179 rfl (lv_at hl 1 rfl) ?_
          refine va_get (D := (dC, dI)) (ci := 4) (v := .ref a_t_trial) (C := RX4) (T := TX4) (N := 21) hx hb hU inlX4 hown hE.1 hP 0 rfl rfl 5 (by decide) (hU _ u_4_16) (fun _ h9 => h9) rfl dX4_judged_180 ?_
          refine lv_iload_n hx hb dX4_judged_183 rfl (lv_at hl 3 rfl) ?_
          obtain ⟨x184, h184, hM⟩ := bind_e hM
          refine rdV (As := [.ref a_t_trial, .int v2]) (rest := []) (st2 := [.int x184]) ⟨hx, hb, hml, hown, hU⟩ hE (okX4_routeState a_t a_t_text a_t_paper a_t_now a_t_trial a_t_diary a_t_kept a_t_isKept a_t_seenAt a_t_worth a_t_readPaper a_t_read a_t_trial s_t s_t_trial s_t_paper v2 x184 h184) lk_X4_142 (hP.sub [0, 1, 2] rfl) rfl rfl rfl hl.1 rfl (Nat.le_of_ble_eq_true rfl) ⟨Nat.le_of_ble_eq_true rfl, Nat.le_of_ble_eq_true rfl⟩ dX4_judged_184 ⟨Nat.le_refl _, Nat.le_refl _⟩ rfl ?_
          refine lv_iload hx hb dX4_judged_187 (lv_at hl 5 rfl) ?_
          refine lv_icmp_ne (tgt := 196) hx hb dX4_judged_189 (by decide) (fun c189 => ?_) (fun c189 => ?_)
          · have hM := ite_f c189 hM
            refine lv_iconst (v := (0 : Int32)) hx hb dX4_judged_196 (by decide) ?_
            cases hM
            exact rt false _ _ _ _ hP hS dX4_judged_197 rfl
          · have hM := ite_t c189 hM
            refine lv_iconst (v := (1 : Int32)) hx hb dX4_judged_192 (by decide) ?_
            refine lv_goto (tgt := 197) hx hb dX4_judged_193 (by decide) ?_
            cases hM
            exact rt true _ _ _ _ hP hS dX4_judged_197 rfl
    have hM := ite_f c17_3 hM
    by_cases c17_4 : v1 = (5 : Int32)
    · have hM := ite_t c17_4 hM
      refine lv_tableIn (off := 181) (tgt := 198) hx hb dX4_judged_17 (by rw [c17_4]; decide) (by rw [c17_4]; decide) (by rw [c17_4]; rfl) (by decide) ?_
      refine lv_iload_n hx hb dX4_judged_198 rfl (lv_at hl 3 rfl) ?_
      obtain ⟨x199, h199, hM⟩ := bind_e hM
      refine rdS (As := [.int v2]) (rest := []) (st2 := [.int (b2i x199)]) ⟨hx, hb, hml, hown, hU⟩ hE (okX4_isLaw v2 x199 h199) lk_X4_200 (hP.sub [] rfl) rfl hl.1 rfl (Nat.le_of_ble_eq_true rfl) ⟨Nat.le_of_ble_eq_true rfl, Nat.le_of_ble_eq_true rfl⟩ dX4_judged_199 ⟨Nat.le_refl _, Nat.le_refl _⟩ rfl ?_
      refine lv_if_eq (tgt := 242) hx hb dX4_judged_202 (by decide) (fun c202 => ?_) (fun c202 => ?_)
      · have hM := ite_f (b2i_eq0 c202) hM
        refine lv_iconst (v := (0 : Int32)) hx hb dX4_judged_242 (by decide) ?_
        cases hM
        exact rt false _ _ _ _ hP hS dX4_judged_243 rfl
      · have hM := ite_t (b2i_ne0 c202) hM
        refine lv_bipush (v := (10 : Int32)) hx hb dX4_judged_205 (by decide) ?_
        refine lv_iload_n hx hb dX4_judged_207 rfl (lv_at hl 4 rfl) ?_
        refine lv_imul hx hb dX4_judged_208 ?_
        refine lv_iload hx hb dX4_judged_209 (lv_at hl 5 rfl) ?_
        refine lv_iadd hx hb dX4_judged_211 ?_
        refine lv_bipush (v := (32 : Int32)) hx hb dX4_judged_212 (by decide) ?_
        refine lv_icmp_ge (tgt := 242) hx hb dX4_judged_214 (by decide) (fun c214 => ?_) (fun c214 => ?_)
        · have hM := ite_t c214 hM
          refine lv_iconst (v := (0 : Int32)) hx hb dX4_judged_242 (by decide) ?_
          cases hM
          exact rt false _ _ _ _ hP hS dX4_judged_243 rfl
        · have hM := ite_f c214 hM
          refine lv_aload_n hx hb dX4_judged_217 rfl (lv_at hl 1 rfl) ?_
          refine lv_aload_n hx hb dX4_judged_218 rfl (lv_at hl 1 rfl) ?_
          refine va_get (D := (dC, dI)) (ci := 4) (v := .ref a_t_trial) (C := RX4) (T := TX4) (N := 21) hx hb hU inlX4 hown hE.1 hP 0 rfl rfl 5 (by decide) (hU _ u_4_16) (fun _ h9 => h9) rfl dX4_judged_219 ?_
          refine lv_bipush (v := (10 : Int32)) hx hb dX4_judged_222 (by decide) ?_
          refine lv_iload_n hx hb dX4_judged_224 rfl (lv_at hl 4 rfl) ?_
          refine lv_imul hx hb dX4_judged_225 ?_
          refine lv_iload hx hb dX4_judged_226 (lv_at hl 5 rfl) ?_
          refine lv_iadd hx hb dX4_judged_228 ?_
          refine lv_iload_n hx hb dX4_judged_229 rfl (lv_at hl 3 rfl) ?_
          obtain ⟨x230, h230, hM⟩ := bind_e hM
          refine rdV (As := [.ref a_t_trial, .int (((10 : Int32) * v3) + v4), .int v2]) (rest := []) (st2 := [.int x230]) ⟨hx, hb, hml, hown, hU⟩ hE (okX4_goesOf a_t a_t_text a_t_paper a_t_now a_t_trial a_t_diary a_t_kept a_t_isKept a_t_seenAt a_t_worth a_t_readPaper a_t_read a_t_trial s_t s_t_trial s_t_paper (((10 : Int32) * v3) + v4) v2 x230 h230) lk_X4_203 (hP.sub [0, 1, 2] rfl) rfl rfl rfl hl.1 rfl (Nat.le_of_ble_eq_true rfl) ⟨Nat.le_of_ble_eq_true rfl, Nat.le_of_ble_eq_true rfl⟩ dX4_judged_230 ⟨Nat.le_refl _, Nat.le_refl _⟩ rfl ?_
          refine lv_bipush (v := (-9 : Int32)) hx hb dX4_judged_233 (by decide) ?_
          refine lv_icmp_ne (tgt := 242) hx hb dX4_judged_235 (by decide) (fun c235 => ?_) (fun c235 => ?_)
          · have hM := ite_f c235 hM
            refine lv_iconst (v := (0 : Int32)) hx hb dX4_judged_242 (by decide) ?_
            cases hM
            exact rt false _ _ _ _ hP hS dX4_judged_243 rfl
          · have hM := ite_t c235 hM
            refine lv_iconst (v := (1 : Int32)) hx hb dX4_judged_238 (by decide) ?_
            refine lv_goto (tgt := 243) hx hb dX4_judged_239 (by decide) ?_
            cases hM
            exact rt true _ _ _ _ hP hS dX4_judged_243 rfl
    have hM := ite_f c17_4 hM
    by_cases c17_5 : v1 = (6 : Int32)
    · have hM := ite_t c17_5 hM
      refine lv_tableIn (off := 227) (tgt := 244) hx hb dX4_judged_17 (by rw [c17_5]; decide) (by rw [c17_5]; decide) (by rw [c17_5]; rfl) (by decide) ?_
      refine lv_iload_n hx hb dX4_judged_244 rfl (lv_at hl 4 rfl) ?_
      refine lv_if_ne (tgt := 289) hx hb dX4_judged_245 (by decide) (fun c245 => ?_) (fun c245 => ?_)
      · have hM := ite_f c245 hM
        refine lv_iconst (v := (0 : Int32)) hx hb dX4_judged_289 (by decide) ?_
        cases hM
        exact rt false _ _ _ _ hP hS dX4_judged_290 rfl
      · have hM := ite_t c245 hM
        refine lv_aload_n hx hb dX4_judged_248 rfl (lv_at hl 1 rfl) ?_
        refine lv_iload_n hx hb dX4_judged_249 rfl (lv_at hl 3 rfl) ?_
        obtain ⟨x250, h250, hM⟩ := bind_e hM
        refine rdV (As := [.int v2]) (rest := []) (st2 := [.int (b2i x250)]) ⟨hx, hb, hml, hown, hU⟩ hE (okX4_isPaper a_t a_t_text a_t_paper a_t_now a_t_trial a_t_diary a_t_kept a_t_isKept a_t_seenAt a_t_worth a_t_readPaper a_t_read s_t v2 x250 h250) lk_X4_165 (hP.sub [0] rfl) rfl rfl rfl hl.1 rfl (Nat.le_of_ble_eq_true rfl) ⟨Nat.le_of_ble_eq_true rfl, Nat.le_of_ble_eq_true rfl⟩ dX4_judged_250 ⟨Nat.le_refl _, Nat.le_refl _⟩ rfl ?_
        refine lv_if_eq (tgt := 289) hx hb dX4_judged_253 (by decide) (fun c253 => ?_) (fun c253 => ?_)
        · have hM := ite_f (b2i_eq0 c253) hM
          refine lv_iconst (v := (0 : Int32)) hx hb dX4_judged_289 (by decide) ?_
          cases hM
          exact rt false _ _ _ _ hP hS dX4_judged_290 rfl
        · have hM := ite_t (b2i_ne0 c253) hM
          refine lv_iload hx hb dX4_judged_256 (lv_at hl 5 rfl) ?_
          refine lv_iconst (v := (2 : Int32)) hx hb dX4_judged_258 (by decide) ?_
          refine lv_icmp_ge (tgt := 289) hx hb dX4_judged_259 (by decide) (fun c259 => ?_) (fun c259 => ?_)
          · have hM := ite_t c259 hM
            refine lv_iconst (v := (0 : Int32)) hx hb dX4_judged_289 (by decide) ?_
            cases hM
            exact rt false _ _ _ _ hP hS dX4_judged_290 rfl
          · have hM := ite_f c259 hM
            refine lv_aload_n hx hb dX4_judged_262 rfl (lv_at hl 1 rfl) ?_
            refine lv_aload_n hx hb dX4_judged_263 rfl (lv_at hl 1 rfl) ?_
            refine va_get (D := (dC, dI)) (ci := 4) (v := .ref a_t_trial) (C := RX4) (T := TX4) (N := 21) hx hb hU inlX4 hown hE.1 hP 0 rfl rfl 5 (by decide) (hU _ u_4_16) (fun _ h9 => h9) rfl dX4_judged_264 ?_
            refine lv_iload_n hx hb dX4_judged_267 rfl (lv_at hl 3 rfl) ?_
            obtain ⟨x268, h268, hM⟩ := bind_e hM
            refine rdV (As := [.ref a_t_trial, .int v2]) (rest := []) (st2 := [.int (b2i x268)]) ⟨hx, hb, hml, hown, hU⟩ hE (okX4_stands a_t a_t_text a_t_paper a_t_now a_t_trial a_t_diary a_t_kept a_t_isKept a_t_seenAt a_t_worth a_t_readPaper a_t_read a_t_trial s_t s_t_paper s_t_trial v2 x268 h268) lk_X4_127 (hP.sub [0, 2, 1] rfl) rfl rfl rfl hl.1 rfl (Nat.le_of_ble_eq_true rfl) ⟨Nat.le_of_ble_eq_true rfl, Nat.le_of_ble_eq_true rfl⟩ dX4_judged_268 ⟨Nat.le_refl _, Nat.le_refl _⟩ rfl ?_
            refine lv_iload hx hb dX4_judged_271 (lv_at hl 5 rfl) ?_
            refine lv_iconst (v := (1 : Int32)) hx hb dX4_judged_273 (by decide) ?_
            have w_282 : ∀ (t0_282 : Bool) (t1_282 : Bool), mX4_judged_b282 s_t s_t_trial s_t_paper t0_282 t1_282 = some res → ∀ (ls : Array Slot) (H : Heap) (locs : List Loc), va_P (dC, dI) vwCl [(a_t, .inr (4, [.ref a_t_text, .int s_t.1, .int s_t.2.1, .ref a_t_paper, .ref a_t_now, .ref a_t_trial, .ref a_t_diary, .int s_t.2.2.1, .int s_t.2.2.2.1, .ref a_t_kept, .ref a_t_isKept, .ref a_t_seenAt, .int s_t.2.2.2.2.1, .long s_t.2.2.2.2.2.2.2.2.2, .ref a_t_worth, .int s_t.2.2.2.2.2.1, .int s_t.2.2.2.2.2.2.1, .ref a_t_readPaper, .ref a_t_read, .int s_t.2.2.2.2.2.2.2.1, .int s_t.2.2.2.2.2.2.2.2.1])), (a_t_trial, .inl (cI, 66, .inl s_t_trial)), (a_t_paper, .inl (cI, 24, .inl s_t_paper))] H → va_D A [(a_t, .inr (4, [.ref a_t_text, .int s_t.1, .int s_t.2.1, .ref a_t_paper, .ref a_t_now, .ref a_t_trial, .ref a_t_diary, .int s_t.2.2.1, .int s_t.2.2.2.1, .ref a_t_kept, .ref a_t_isKept, .ref a_t_seenAt, .int s_t.2.2.2.2.1, .long s_t.2.2.2.2.2.2.2.2.2, .ref a_t_worth, .int s_t.2.2.2.2.2.1, .int s_t.2.2.2.2.2.2.1, .ref a_t_readPaper, .ref a_t_read, .int s_t.2.2.2.2.2.2.2.1, .int s_t.2.2.2.2.2.2.2.2.1])), (a_t_trial, .inl (cI, 66, .inl s_t_trial)), (a_t_paper, .inl (cI, 24, .inl s_t_paper))] → va_S A s.heap H locs → lv_has ls 6 [] → W p l e (RM 9 221) s m args below meth c H locs 0 0 Q (F0 m 282 ls [.int (b2i t0_282), .int (b2i t1_282)]) := by
              intro t0_282 t1_282 hM ls H locs hP hD hS hl
              unfold mX4_judged_b282 at hM
              refine lv_icmp_ne (tgt := 289) hx hb dX4_judged_282 (by decide) (fun c282 => ?_) (fun c282 => ?_)
              · have hM := ite_f c282 hM
                refine lv_iconst (v := (0 : Int32)) hx hb dX4_judged_289 (by decide) ?_
                cases hM
                exact rt false _ _ _ _ hP hS dX4_judged_290 rfl
              · have hM := ite_t c282 hM
                refine lv_iconst (v := (1 : Int32)) hx hb dX4_judged_285 (by decide) ?_
                refine lv_goto (tgt := 290) hx hb dX4_judged_286 (by decide) ?_
                cases hM
                exact rt true _ _ _ _ hP hS dX4_judged_290 rfl
            refine lv_icmp_ne (tgt := 281) hx hb dX4_judged_274 (by decide) (fun c274 => ?_) (fun c274 => ?_)
            · have hM := ite_f c274 hM
              refine lv_iconst (v := (0 : Int32)) hx hb dX4_judged_281 (by decide) ?_
              exact w_282 false x268 hM ls _ _ hP hD hS (lv_sub hl [] rfl)
            · have hM := ite_t c274 hM
              refine lv_iconst (v := (1 : Int32)) hx hb dX4_judged_277 (by decide) ?_
              refine lv_goto (tgt := 282) hx hb dX4_judged_278 (by decide) ?_
              exact w_282 true x268 hM ls _ _ hP hD hS (lv_sub hl [] rfl)
    have hM := ite_f c17_5 hM
    by_cases c17_6 : v1 = (7 : Int32)
    · have hM := ite_t c17_6 hM
      refine lv_tableIn (off := 274) (tgt := 291) hx hb dX4_judged_17 (by rw [c17_6]; decide) (by rw [c17_6]; decide) (by rw [c17_6]; rfl) (by decide) ?_
      refine lv_iload_n hx hb dX4_judged_291 rfl (lv_at hl 4 rfl) ?_
      refine lv_if_ne (tgt := 338) hx hb dX4_judged_292 (by decide) (fun c292 => ?_) (fun c292 => ?_)
      · have hM := ite_f c292 hM
        refine lv_iconst (v := (0 : Int32)) hx hb dX4_judged_338 (by decide) ?_
        cases hM
        exact rt false _ _ _ _ hP hS dX4_judged_339 rfl
      · have hM := ite_t c292 hM
        refine lv_iload_n hx hb dX4_judged_295 rfl (lv_at hl 3 rfl) ?_
        refine lv_aload_n hx hb dX4_judged_296 rfl (lv_at hl 1 rfl) ?_
        refine va_get (D := (dC, dI)) (ci := 4) (v := .ref a_t_trial) (C := RX4) (T := TX4) (N := 21) hx hb hU inlX4 hown hE.1 hP 0 rfl rfl 5 (by decide) (hU _ u_4_16) (fun _ h9 => h9) rfl dX4_judged_297 ?_
        refine lv_iconst (v := (0 : Int32)) hx hb dX4_judged_300 (by decide) ?_
        obtain ⟨g301, hM⟩ := rd_e hM
        refine va_iald hx hb hE.1 hP 1 0 rfl rfl g301 dX4_judged_301 ?_
        refine lv_icmp_ge (tgt := 338) hx hb dX4_judged_302 (by decide) (fun c302 => ?_) (fun c302 => ?_)
        · have hM := ite_t c302 hM
          refine lv_iconst (v := (0 : Int32)) hx hb dX4_judged_338 (by decide) ?_
          cases hM
          exact rt false _ _ _ _ hP hS dX4_judged_339 rfl
        · have hM := ite_f c302 hM
          refine lv_iload hx hb dX4_judged_305 (lv_at hl 5 rfl) ?_
          refine lv_iconst (v := (2 : Int32)) hx hb dX4_judged_307 (by decide) ?_
          refine lv_icmp_ge (tgt := 338) hx hb dX4_judged_308 (by decide) (fun c308 => ?_) (fun c308 => ?_)
          · have hM := ite_t c308 hM
            refine lv_iconst (v := (0 : Int32)) hx hb dX4_judged_338 (by decide) ?_
            cases hM
            exact rt false _ _ _ _ hP hS dX4_judged_339 rfl
          · have hM := ite_f c308 hM
            refine lv_aload_n hx hb dX4_judged_311 rfl (lv_at hl 1 rfl) ?_
            refine lv_aload_n hx hb dX4_judged_312 rfl (lv_at hl 1 rfl) ?_
            refine va_get (D := (dC, dI)) (ci := 4) (v := .ref a_t_trial) (C := RX4) (T := TX4) (N := 21) hx hb hU inlX4 hown hE.1 hP 0 rfl rfl 5 (by decide) (hU _ u_4_16) (fun _ h9 => h9) rfl dX4_judged_313 ?_
            refine lv_iload_n hx hb dX4_judged_316 rfl (lv_at hl 3 rfl) ?_
            obtain ⟨x317, h317, hM⟩ := bind_e hM
            refine rdV (As := [.ref a_t_trial, .int v2]) (rest := []) (st2 := [.int (b2i x317)]) ⟨hx, hb, hml, hown, hU⟩ hE (okX4_counts a_t a_t_text a_t_paper a_t_now a_t_trial a_t_diary a_t_kept a_t_isKept a_t_seenAt a_t_worth a_t_readPaper a_t_read a_t_trial s_t s_t_trial s_t_paper v2 x317 h317) lk_X4_131 (hP.sub [0, 1, 2] rfl) rfl rfl rfl hl.1 rfl (Nat.le_of_ble_eq_true rfl) ⟨Nat.le_of_ble_eq_true rfl, Nat.le_of_ble_eq_true rfl⟩ dX4_judged_317 ⟨Nat.le_refl _, Nat.le_refl _⟩ rfl ?_
            refine lv_iload hx hb dX4_judged_320 (lv_at hl 5 rfl) ?_
            refine lv_iconst (v := (1 : Int32)) hx hb dX4_judged_322 (by decide) ?_
            have w_331 : ∀ (t0_331 : Bool) (t1_331 : Bool), mX4_judged_b331 s_t s_t_trial s_t_paper t0_331 t1_331 = some res → ∀ (ls : Array Slot) (H : Heap) (locs : List Loc), va_P (dC, dI) vwCl [(a_t, .inr (4, [.ref a_t_text, .int s_t.1, .int s_t.2.1, .ref a_t_paper, .ref a_t_now, .ref a_t_trial, .ref a_t_diary, .int s_t.2.2.1, .int s_t.2.2.2.1, .ref a_t_kept, .ref a_t_isKept, .ref a_t_seenAt, .int s_t.2.2.2.2.1, .long s_t.2.2.2.2.2.2.2.2.2, .ref a_t_worth, .int s_t.2.2.2.2.2.1, .int s_t.2.2.2.2.2.2.1, .ref a_t_readPaper, .ref a_t_read, .int s_t.2.2.2.2.2.2.2.1, .int s_t.2.2.2.2.2.2.2.2.1])), (a_t_trial, .inl (cI, 66, .inl s_t_trial)), (a_t_paper, .inl (cI, 24, .inl s_t_paper))] H → va_D A [(a_t, .inr (4, [.ref a_t_text, .int s_t.1, .int s_t.2.1, .ref a_t_paper, .ref a_t_now, .ref a_t_trial, .ref a_t_diary, .int s_t.2.2.1, .int s_t.2.2.2.1, .ref a_t_kept, .ref a_t_isKept, .ref a_t_seenAt, .int s_t.2.2.2.2.1, .long s_t.2.2.2.2.2.2.2.2.2, .ref a_t_worth, .int s_t.2.2.2.2.2.1, .int s_t.2.2.2.2.2.2.1, .ref a_t_readPaper, .ref a_t_read, .int s_t.2.2.2.2.2.2.2.1, .int s_t.2.2.2.2.2.2.2.2.1])), (a_t_trial, .inl (cI, 66, .inl s_t_trial)), (a_t_paper, .inl (cI, 24, .inl s_t_paper))] → va_S A s.heap H locs → lv_has ls 6 [] → W p l e (RM 9 221) s m args below meth c H locs 0 0 Q (F0 m 331 ls [.int (b2i t0_331), .int (b2i t1_331)]) := by
              intro t0_331 t1_331 hM ls H locs hP hD hS hl
              unfold mX4_judged_b331 at hM
              refine lv_icmp_ne (tgt := 338) hx hb dX4_judged_331 (by decide) (fun c331 => ?_) (fun c331 => ?_)
              · have hM := ite_f c331 hM
                refine lv_iconst (v := (0 : Int32)) hx hb dX4_judged_338 (by decide) ?_
                cases hM
                exact rt false _ _ _ _ hP hS dX4_judged_339 rfl
              · have hM := ite_t c331 hM
                refine lv_iconst (v := (1 : Int32)) hx hb dX4_judged_334 (by decide) ?_
                refine lv_goto (tgt := 339) hx hb dX4_judged_335 (by decide) ?_
                cases hM
                exact rt true _ _ _ _ hP hS dX4_judged_339 rfl
            refine lv_icmp_ne (tgt := 330) hx hb dX4_judged_323 (by decide) (fun c323 => ?_) (fun c323 => ?_)
            · have hM := ite_f c323 hM
              refine lv_iconst (v := (0 : Int32)) hx hb dX4_judged_330 (by decide) ?_
              exact w_331 false x317 hM ls _ _ hP hD hS (lv_sub hl [] rfl)
            · have hM := ite_t c323 hM
              refine lv_iconst (v := (1 : Int32)) hx hb dX4_judged_326 (by decide) ?_
              refine lv_goto (tgt := 331) hx hb dX4_judged_327 (by decide) ?_
              exact w_331 true x317 hM ls _ _ hP hD hS (lv_sub hl [] rfl)
    have hM := ite_f c17_6 hM
    by_cases c17_7 : v1 = (8 : Int32)
    · have hM := ite_t c17_7 hM
      refine lv_tableIn (off := 323) (tgt := 340) hx hb dX4_judged_17 (by rw [c17_7]; decide) (by rw [c17_7]; decide) (by rw [c17_7]; rfl) (by decide) ?_
      refine lv_iload_n hx hb dX4_judged_340 rfl (lv_at hl 3 rfl) ?_
      refine lv_aload_n hx hb dX4_judged_341 rfl (lv_at hl 1 rfl) ?_
      refine va_get (D := (dC, dI)) (ci := 4) (v := .ref a_t_trial) (C := RX4) (T := TX4) (N := 21) hx hb hU inlX4 hown hE.1 hP 0 rfl rfl 5 (by decide) (hU _ u_4_16) (fun _ h9 => h9) rfl dX4_judged_342 ?_
      refine lv_bipush (v := (41 : Int32)) hx hb dX4_judged_345 (by decide) ?_
      obtain ⟨g347, hM⟩ := rd_e hM
      refine va_iald hx hb hE.1 hP 1 0 rfl rfl g347 dX4_judged_347 ?_
      refine lv_icmp_ge (tgt := 356) hx hb dX4_judged_348 (by decide) (fun c348 => ?_) (fun c348 => ?_)
      · have hM := ite_t c348 hM
        refine lv_iconst (v := (0 : Int32)) hx hb dX4_judged_356 (by decide) ?_
        cases hM
        exact rt false _ _ _ _ hP hS dX4_judged_357 rfl
      · have hM := ite_f c348 hM
        refine lv_iload hx hb dX4_judged_351 (lv_at hl 0 rfl) ?_
        refine lv_if_ne (tgt := 358) hx hb dX4_judged_353 (by decide) (fun c353 => ?_) (fun c353 => ?_)
        · have hM := ite_t (b2i_ne0 c353) hM
          refine lv_aload_n hx hb dX4_judged_358 rfl (lv_at hl 1 rfl) ?_
          refine va_get (D := (dC, dI)) (ci := 4) (v := .ref a_t_trial) (C := RX4) (T := TX4) (N := 21) hx hb hU inlX4 hown hE.1 hP 0 rfl rfl 5 (by decide) (hU _ u_4_16) (fun _ h9 => h9) rfl dX4_judged_359 ?_
          refine lv_iload_n hx hb dX4_judged_362 rfl (lv_at hl 3 rfl) ?_
          obtain ⟨x363, h363, hM⟩ := bind_e hM
          refine muS (As := [.ref a_t_trial, .int v2]) (rest := []) (st2 := []) (nw := [(a_t, .inr (4, [.ref a_t_text, .int s_t.1, .int s_t.2.1, .ref a_t_paper, .ref a_t_now, .ref a_t_trial, .ref a_t_diary, .int s_t.2.2.1, .int s_t.2.2.2.1, .ref a_t_kept, .ref a_t_isKept, .ref a_t_seenAt, .int s_t.2.2.2.2.1, .long s_t.2.2.2.2.2.2.2.2.2, .ref a_t_worth, .int s_t.2.2.2.2.2.1, .int s_t.2.2.2.2.2.2.1, .ref a_t_readPaper, .ref a_t_read, .int s_t.2.2.2.2.2.2.2.1, .int s_t.2.2.2.2.2.2.2.2.1])), (a_t_trial, .inl (cI, 66, .inl x363)), (a_t_paper, .inl (cI, 24, .inl s_t_paper))]) ⟨hx, hb, hml, hown, hU⟩ hE (okX4_takeRoute a_t_trial s_t_trial v2 x363 h363) lk_X4_191 hP hD hS hA [1] rfl rfl rfl rfl hl.1 rfl (Nat.le_of_ble_eq_true rfl) ⟨Nat.le_of_ble_eq_true rfl, Nat.le_of_ble_eq_true rfl⟩ dX4_judged_363 ⟨Nat.le_refl _, Nat.le_refl _⟩ rfl rfl rfl rfl (fun H locs hP hD hS => ?_)
          refine lv_iconst (v := (1 : Int32)) hx hb dX4_judged_366 (by decide) ?_
          cases hM
          exact rt true _ _ _ _ hP hS dX4_judged_367 rfl
        · have hM := ite_f (b2i_eq0 c353) hM
          refine lv_iconst (v := (0 : Int32)) hx hb dX4_judged_356 (by decide) ?_
          cases hM
          exact rt false _ _ _ _ hP hS dX4_judged_357 rfl
    have hM := ite_f c17_7 hM
    refine lv_tableOut (tgt := 368) hx hb dX4_judged_17 (sw_out (fun v h1 h2 h3 => by rcases (show v = 1 ∨ v = 2 ∨ v = 3 ∨ v = 4 ∨ v = 5 ∨ v = 6 ∨ v = 7 ∨ v = 8 by omega) with rfl | rfl | rfl | rfl | rfl | rfl | rfl | rfl <;> first | exact c17_0 (Int32.toInt_inj.mp (h3.trans (by decide))) | exact c17_1 (Int32.toInt_inj.mp (h3.trans (by decide))) | exact c17_2 (Int32.toInt_inj.mp (h3.trans (by decide))) | exact c17_3 (Int32.toInt_inj.mp (h3.trans (by decide))) | exact c17_4 (Int32.toInt_inj.mp (h3.trans (by decide))) | exact c17_5 (Int32.toInt_inj.mp (h3.trans (by decide))) | exact c17_6 (Int32.toInt_inj.mp (h3.trans (by decide))) | exact c17_7 (Int32.toInt_inj.mp (h3.trans (by decide))))) (by decide) ?_
    refine lv_iconst (v := (0 : Int32)) hx hb dX4_judged_368 (by decide) ?_
    cases hM
    exact rt false _ _ _ _ hP hS dX4_judged_369 rfl
  refine lv_if_ne (tgt := 13) hx hb dX4_judged_1 (by decide) (fun c1 => ?_) (fun c1 => ?_)
  · have hM := ite_f c1 hM
    refine lv_iconst (v := (0 : Int32)) hx hb dX4_judged_13 (by decide) ?_
    exact w_14 false hM ls _ _ hP hD hS (lv_sub hl [0, 1, 2, 3, 4] rfl)
  · have hM := ite_t c1 hM
    refine lv_iload hx hb dX4_judged_4 (lv_at hl 4 rfl) ?_
    refine lv_if_ne (tgt := 13) hx hb dX4_judged_6 (by decide) (fun c6 => ?_) (fun c6 => ?_)
    · have hM := ite_f c6 hM
      refine lv_iconst (v := (0 : Int32)) hx hb dX4_judged_13 (by decide) ?_
      exact w_14 false hM ls _ _ hP hD hS (lv_sub hl [0, 1, 2, 3, 4] rfl)
    · have hM := ite_t c6 hM
      refine lv_iconst (v := (1 : Int32)) hx hb dX4_judged_9 (by decide) ?_
      refine lv_goto (tgt := 14) hx hb dX4_judged_10 (by decide) ?_
      exact w_14 true hM ls _ _ hP hD hS (lv_sub hl [0, 1, 2, 3, 4] rfl)
noncomputable def mX4_tenThousands_b4 (v0 : Int32) : Nat → Int64 → Int32 → Option (Int64)
  | 0, _, _ => none
  | n + 1, v1, v3 => (if v0 ≤ v3 then some (v1) else mX4_tenThousands_b4 v0 n (v1 * (10000 : Int64)) (v3 + (1 : Int32)))
noncomputable def mX4_tenThousands (v0 : Int32) : Option (Int64) := mX4_tenThousands_b4 v0 FU (1 : Int64) (0 : Int32)
set_option maxHeartbeats 4000000 in
set_option maxRecDepth 100000 in
theorem okX4_tenThousands {l : Launch} {dC : Nat → ClassId} {dI : Nat → Nat → Nat} {cI cC cZ : ClassId} (v0 : Int32) (res : Int64) (hM : mX4_tenThousands v0 = some res) : Rd l yX4_tenThousands cX4_tenThousands 4 (some .long) 0 0 (dC, dI) cI cC cZ [] [.int v0] (some (.long res)) := by
  refine Rd.ofJ (by decide) (Nat.le_of_ble_eq_true rfl) [(0, .int v0)] rfl ?_
  intro p e s m args below meth c ls Q hx hb hml hown hU hE hP rt hl
  have hown : s.vm.findClass RX4 = some m.cls := hown
  unfold mX4_tenThousands at hM
  refine lv_lconst (v := (1 : Int64)) hx hb dX4_tenThousands_0 (by decide) ?_
  refine lv_lstore_n (lv' := [(1, .long (1 : Int64)), (0, .int v0)]) hx hb dX4_tenThousands_1 rfl hl (by decide) rfl (fun ls hl => ?_)
  refine lv_iconst (v := (0 : Int32)) hx hb dX4_tenThousands_2 (by decide) ?_
  refine lv_istore_n (lv' := [(3, .int (0 : Int32)), (1, .long (1 : Int64)), (0, .int v0)]) hx hb dX4_tenThousands_3 rfl hl (by decide) rfl (fun ls hl => ?_)
  have w_4 : ∀ (n : Nat) (v1_4 : Int64) (v3_4 : Int32), mX4_tenThousands_b4 v0 n v1_4 v3_4 = some res → ∀ (ls : Array Slot), lv_has ls 4 [(0, .int v0), (1, .long v1_4), (3, .int v3_4)] → W p l e (RM 0 0) s m args below meth c s.heap [] 0 0 Q (F0 m 4 ls []) := by
    intro n
    induction n with
    | zero =>
      intro v1_4 v3_4 hM
      rw [mX4_tenThousands_b4] at hM
      cases hM
    | succ n_4 ih_4 =>
      intro v1_4 v3_4 hM ls hl
      rw [mX4_tenThousands_b4] at hM
      refine lv_iload_n hx hb dX4_tenThousands_4 rfl (lv_at hl 2 rfl) ?_
      refine lv_iload_n hx hb dX4_tenThousands_5 rfl (lv_at hl 0 rfl) ?_
      refine lv_icmp_ge (tgt := 21) hx hb dX4_tenThousands_6 (by decide) (fun c6 => ?_) (fun c6 => ?_)
      · have hM := ite_t c6 hM
        refine lv_lload_n hx hb dX4_tenThousands_21 rfl (lv_at hl 1 rfl) ?_
        cases hM
        exact rt _ _ _ dX4_tenThousands_22 rfl
      · have hM := ite_f c6 hM
        refine lv_lload_n hx hb dX4_tenThousands_9 rfl (lv_at hl 1 rfl) ?_
        refine lv_ldc2 hx hb hown (hU _ u_26_20) dX4_tenThousands_10 ?_
        refine lv_lmul hx hb dX4_tenThousands_13 ?_
        refine lv_lstore_n (lv' := [(1, .long (v1_4 * (10000 : Int64))), (0, .int v0), (3, .int v3_4)]) hx hb dX4_tenThousands_14 rfl hl (by decide) rfl (fun ls hl => ?_)
        refine lv_iinc (v := (v3_4 + (1 : Int32))) (lv' := [(3, .int (v3_4 + (1 : Int32))), (1, .long (v1_4 * (10000 : Int64))), (0, .int v0)]) hx hb dX4_tenThousands_15 hl (k := 2) rfl rfl (by decide) rfl (fun ls hl => ?_)
        refine lv_goto (tgt := 4) hx hb dX4_tenThousands_18 (by decide) ?_
        exact ih_4 (v1_4 * (10000 : Int64)) (v3_4 + (1 : Int32)) hM ls (lv_sub hl [2, 1, 0] rfl)
  exact w_4 FU (1 : Int64) (0 : Int32) hM ls (lv_sub hl [2, 1, 0] rfl)
noncomputable def mX4_judge_b43 (s_t : Int32 × Int32 × Int32 × Int32 × Int32 × Int32 × Int32 × Int32 × Int32 × Int64) (s_t_now : Nat → Int32) (s_t_paper : Nat → Int32) (v1 : Int32) (v2 : Int64) : Nat → Int32 → (Nat → Int32) → Option (Int32 × (Nat → Int32))
  | 0, _, _ => none
  | n + 1, v4, s_t_trial => (if v1 ≤ v4 then some ((-9 : Int32), s_t_trial) else (mX4_tenThousands ((v1 - (1 : Int32)) - v4)).bind (fun x56 => ldv v2 x56 (fun x59 => bnd ((x59 - x59 / (10000 : Int64) * (10000 : Int64)).toInt32) (fun z65 => (mX4_judged s_t s_t_trial s_t_paper (z65 / (1000 : Int32)) ((z65 / (100 : Int32)) - (z65 / (100 : Int32)) / (10 : Int32) * (10 : Int32)) ((z65 / (10 : Int32)) - (z65 / (10 : Int32)) / (10 : Int32) * (10 : Int32)) (z65 - z65 / (10 : Int32) * (10 : Int32))).bind (fun x95 => (if x95.1 = true then mX4_judge_b43 s_t s_t_now s_t_paper v1 v2 n (v4 + (1 : Int32)) x95.2 else some (v4, x95.2)))))))
noncomputable def mX4_judge (s_t : Int32 × Int32 × Int32 × Int32 × Int32 × Int32 × Int32 × Int32 × Int32 × Int64) (s_t_now : Nat → Int32) (s_t_trial : Nat → Int32) (s_t_paper : Nat → Int32) (v1 : Int32) (v2 : Int64) : Option (Int32 × (Nat → Int32)) := (mX4_in (v1.toInt64) (1 : Int64) (4 : Int64)).bind (fun x6 => (if x6 = true then (mX4_tenThousands v1).bind (fun x15 => (mX4_in v2 (0 : Int64) (x15 - (1 : Int64))).bind (fun x20 => (if x20 = true then (mX4_copy s_t_now s_t_trial).bind (fun x37 => mX4_judge_b43 s_t s_t_now s_t_paper v1 v2 FU (0 : Int32) x37) else some ((-2 : Int32), s_t_trial)))) else some ((-2 : Int32), s_t_trial)))
set_option maxHeartbeats 4000000 in
set_option maxRecDepth 100000 in
theorem okX4_judge {l : Launch} {dC : Nat → ClassId} {dI : Nat → Nat → Nat} {cI cC cZ : ClassId} (a_t a_t_text a_t_paper a_t_now a_t_trial a_t_diary a_t_kept a_t_isKept a_t_seenAt a_t_worth a_t_readPaper a_t_read : Nat) (s_t : Int32 × Int32 × Int32 × Int32 × Int32 × Int32 × Int32 × Int32 × Int32 × Int64) (s_t_now : Nat → Int32) (s_t_trial : Nat → Int32) (s_t_paper : Nat → Int32) (v1 : Int32) (v2 : Int64) (res : Int32 × (Nat → Int32)) (hM : mX4_judge s_t s_t_now s_t_trial s_t_paper v1 v2 = some res) : Mu l yX4_judge cX4_judge 6 (some .int) 10 246 (dC, dI) cI cC cZ [(a_t, .inr (4, [.ref a_t_text, .int s_t.1, .int s_t.2.1, .ref a_t_paper, .ref a_t_now, .ref a_t_trial, .ref a_t_diary, .int s_t.2.2.1, .int s_t.2.2.2.1, .ref a_t_kept, .ref a_t_isKept, .ref a_t_seenAt, .int s_t.2.2.2.2.1, .long s_t.2.2.2.2.2.2.2.2.2, .ref a_t_worth, .int s_t.2.2.2.2.2.1, .int s_t.2.2.2.2.2.2.1, .ref a_t_readPaper, .ref a_t_read, .int s_t.2.2.2.2.2.2.2.1, .int s_t.2.2.2.2.2.2.2.2.1])), (a_t_now, .inl (cI, 66, .inl s_t_now)), (a_t_trial, .inl (cI, 66, .inl s_t_trial)), (a_t_paper, .inl (cI, 24, .inl s_t_paper))] [(a_t, .inr (4, [.ref a_t_text, .int s_t.1, .int s_t.2.1, .ref a_t_paper, .ref a_t_now, .ref a_t_trial, .ref a_t_diary, .int s_t.2.2.1, .int s_t.2.2.2.1, .ref a_t_kept, .ref a_t_isKept, .ref a_t_seenAt, .int s_t.2.2.2.2.1, .long s_t.2.2.2.2.2.2.2.2.2, .ref a_t_worth, .int s_t.2.2.2.2.2.1, .int s_t.2.2.2.2.2.2.1, .ref a_t_readPaper, .ref a_t_read, .int s_t.2.2.2.2.2.2.2.1, .int s_t.2.2.2.2.2.2.2.2.1])), (a_t_now, .inl (cI, 66, .inl s_t_now)), (a_t_trial, .inl (cI, 66, .inl res.2)), (a_t_paper, .inl (cI, 24, .inl s_t_paper))] [.ref a_t, .int v1, .long v2] (some (.int res.1)) := by
  refine Mu.ofI (by decide) (Nat.le_of_ble_eq_true rfl) [(0, .ref a_t), (1, .int v1), (2, .long v2)] rfl ?_
  intro p e s m args below meth c ls Q A hx hb hml hown hU hE hP hD hS hA rt hl
  have hown : s.vm.findClass RX4 = some m.cls := hown
  unfold mX4_judge at hM
  refine lv_iload_n hx hb dX4_judge_0 rfl (lv_at hl 1 rfl) ?_
  refine lv_i2l (v := (v1.toInt64)) hx hb dX4_judge_1 rfl ?_
  refine lv_lconst (v := (1 : Int64)) hx hb dX4_judge_2 (by decide) ?_
  refine lv_ldc2 hx hb hown (hU _ u_16_14) dX4_judge_3 ?_
  obtain ⟨x6, h6, hM⟩ := bind_e hM
  refine rdS (As := [.long (v1.toInt64), .long (1 : Int64), .long (4 : Int64)]) (rest := []) (st2 := [.int (b2i x6)]) ⟨hx, hb, hml, hown, hU⟩ hE (okX4_in (v1.toInt64) (1 : Int64) (4 : Int64) x6 h6) lk_X4_50 (hP.sub [] rfl) rfl hl.1 rfl (Nat.le_of_ble_eq_true rfl) ⟨Nat.le_of_ble_eq_true rfl, Nat.le_of_ble_eq_true rfl⟩ dX4_judge_6 ⟨Nat.le_refl _, Nat.le_refl _⟩ rfl ?_
  refine lv_if_eq (tgt := 26) hx hb dX4_judge_9 (by decide) (fun c9 => ?_) (fun c9 => ?_)
  · have hM := ite_f (b2i_eq0 c9) hM
    refine lv_bipush (v := (-2 : Int32)) hx hb dX4_judge_26 (by decide) ?_
    cases hM
    exact rt _ _ _ _ _ hP hS dX4_judge_28 rfl
  · have hM := ite_t (b2i_ne0 c9) hM
    refine lv_lload_n hx hb dX4_judge_12 rfl (lv_at hl 2 rfl) ?_
    refine lv_lconst (v := (0 : Int64)) hx hb dX4_judge_13 (by decide) ?_
    refine lv_iload_n hx hb dX4_judge_14 rfl (lv_at hl 1 rfl) ?_
    obtain ⟨x15, h15, hM⟩ := bind_e hM
    refine rdS (As := [.int v1]) (rest := [.long (0 : Int64), .long v2]) (st2 := [.long x15, .long (0 : Int64), .long v2]) ⟨hx, hb, hml, hown, hU⟩ hE (okX4_tenThousands v1 x15 h15) lk_X4_209 (hP.sub [] rfl) rfl hl.1 rfl (Nat.le_of_ble_eq_true rfl) ⟨Nat.le_of_ble_eq_true rfl, Nat.le_of_ble_eq_true rfl⟩ dX4_judge_15 ⟨Nat.le_refl _, Nat.le_refl _⟩ rfl ?_
    refine lv_lconst (v := (1 : Int64)) hx hb dX4_judge_18 (by decide) ?_
    refine lv_lsub hx hb dX4_judge_19 ?_
    obtain ⟨x20, h20, hM⟩ := bind_e hM
    refine rdS (As := [.long v2, .long (0 : Int64), .long (x15 - (1 : Int64))]) (rest := []) (st2 := [.int (b2i x20)]) ⟨hx, hb, hml, hown, hU⟩ hE (okX4_in v2 (0 : Int64) (x15 - (1 : Int64)) x20 h20) lk_X4_50 (hP.sub [] rfl) rfl hl.1 rfl (Nat.le_of_ble_eq_true rfl) ⟨Nat.le_of_ble_eq_true rfl, Nat.le_of_ble_eq_true rfl⟩ dX4_judge_20 ⟨Nat.le_refl _, Nat.le_refl _⟩ rfl ?_
    refine lv_if_ne (tgt := 29) hx hb dX4_judge_23 (by decide) (fun c23 => ?_) (fun c23 => ?_)
    · have hM := ite_t (b2i_ne0 c23) hM
      refine lv_aload_n hx hb dX4_judge_29 rfl (lv_at hl 0 rfl) ?_
      refine va_get (D := (dC, dI)) (ci := 4) (v := .ref a_t_now) (C := RX4) (T := TX4) (N := 21) hx hb hU inlX4 hown hE.1 hP 0 rfl rfl 4 (by decide) (hU _ u_4_15) (fun _ h9 => h9) rfl dX4_judge_30 ?_
      refine lv_aload_n hx hb dX4_judge_33 rfl (lv_at hl 0 rfl) ?_
      refine va_get (D := (dC, dI)) (ci := 4) (v := .ref a_t_trial) (C := RX4) (T := TX4) (N := 21) hx hb hU inlX4 hown hE.1 hP 0 rfl rfl 5 (by decide) (hU _ u_4_16) (fun _ h9 => h9) rfl dX4_judge_34 ?_
      obtain ⟨x37, h37, hM⟩ := bind_e hM
      refine muS (As := [.ref a_t_now, .ref a_t_trial]) (rest := []) (st2 := []) (nw := [(a_t, .inr (4, [.ref a_t_text, .int s_t.1, .int s_t.2.1, .ref a_t_paper, .ref a_t_now, .ref a_t_trial, .ref a_t_diary, .int s_t.2.2.1, .int s_t.2.2.2.1, .ref a_t_kept, .ref a_t_isKept, .ref a_t_seenAt, .int s_t.2.2.2.2.1, .long s_t.2.2.2.2.2.2.2.2.2, .ref a_t_worth, .int s_t.2.2.2.2.2.1, .int s_t.2.2.2.2.2.2.1, .ref a_t_readPaper, .ref a_t_read, .int s_t.2.2.2.2.2.2.2.1, .int s_t.2.2.2.2.2.2.2.2.1])), (a_t_now, .inl (cI, 66, .inl s_t_now)), (a_t_trial, .inl (cI, 66, .inl x37)), (a_t_paper, .inl (cI, 24, .inl s_t_paper))]) ⟨hx, hb, hml, hown, hU⟩ hE (okX4_copy a_t_now a_t_trial s_t_now s_t_trial x37 h37) lk_X4_113 hP hD hS hA [1, 2] rfl rfl rfl rfl hl.1 rfl (Nat.le_of_ble_eq_true rfl) ⟨Nat.le_of_ble_eq_true rfl, Nat.le_of_ble_eq_true rfl⟩ dX4_judge_37 ⟨Nat.le_refl _, Nat.le_refl _⟩ rfl rfl rfl rfl (fun H locs hP hD hS => ?_)
      refine lv_iconst (v := (0 : Int32)) hx hb dX4_judge_40 (by decide) ?_
      refine lv_istore (lv' := [(4, .int (0 : Int32)), (0, .ref a_t), (1, .int v1), (2, .long v2)]) hx hb dX4_judge_41 hl (by decide) rfl (fun ls hl => ?_)
      have w_43 : ∀ (n : Nat) (v4_43 : Int32) (s_t_trial_43 : Nat → Int32), mX4_judge_b43 s_t s_t_now s_t_paper v1 v2 n v4_43 s_t_trial_43 = some res → ∀ (ls : Array Slot) (H : Heap) (locs : List Loc), va_P (dC, dI) vwCl [(a_t, .inr (4, [.ref a_t_text, .int s_t.1, .int s_t.2.1, .ref a_t_paper, .ref a_t_now, .ref a_t_trial, .ref a_t_diary, .int s_t.2.2.1, .int s_t.2.2.2.1, .ref a_t_kept, .ref a_t_isKept, .ref a_t_seenAt, .int s_t.2.2.2.2.1, .long s_t.2.2.2.2.2.2.2.2.2, .ref a_t_worth, .int s_t.2.2.2.2.2.1, .int s_t.2.2.2.2.2.2.1, .ref a_t_readPaper, .ref a_t_read, .int s_t.2.2.2.2.2.2.2.1, .int s_t.2.2.2.2.2.2.2.2.1])), (a_t_now, .inl (cI, 66, .inl s_t_now)), (a_t_trial, .inl (cI, 66, .inl s_t_trial_43)), (a_t_paper, .inl (cI, 24, .inl s_t_paper))] H → va_D A [(a_t, .inr (4, [.ref a_t_text, .int s_t.1, .int s_t.2.1, .ref a_t_paper, .ref a_t_now, .ref a_t_trial, .ref a_t_diary, .int s_t.2.2.1, .int s_t.2.2.2.1, .ref a_t_kept, .ref a_t_isKept, .ref a_t_seenAt, .int s_t.2.2.2.2.1, .long s_t.2.2.2.2.2.2.2.2.2, .ref a_t_worth, .int s_t.2.2.2.2.2.1, .int s_t.2.2.2.2.2.2.1, .ref a_t_readPaper, .ref a_t_read, .int s_t.2.2.2.2.2.2.2.1, .int s_t.2.2.2.2.2.2.2.2.1])), (a_t_now, .inl (cI, 66, .inl s_t_now)), (a_t_trial, .inl (cI, 66, .inl s_t_trial_43)), (a_t_paper, .inl (cI, 24, .inl s_t_paper))] → va_S A s.heap H locs → lv_has ls 6 [(0, .ref a_t), (1, .int v1), (2, .long v2), (4, .int v4_43)] → W p l e (RM 10 246) s m args below meth c H locs 0 0 Q (F0 m 43 ls []) := by
        intro n
        induction n with
        | zero =>
          intro v4_43 s_t_trial_43 hM
          rw [mX4_judge_b43] at hM
          cases hM
        | succ n_43 ih_43 =>
          intro v4_43 s_t_trial_43 hM ls H locs hP hD hS hl
          rw [mX4_judge_b43] at hM
          refine lv_iload hx hb dX4_judge_43 (lv_at hl 3 rfl) ?_
          refine lv_iload_n hx hb dX4_judge_45 rfl (lv_at hl 1 rfl) ?_
          refine lv_icmp_ge (tgt := 110) hx hb dX4_judge_46 (by decide) (fun c46 => ?_) (fun c46 => ?_)
          · have hM := ite_t c46 hM
            refine lv_bipush (v := (-9 : Int32)) hx hb dX4_judge_110 (by decide) ?_
            cases hM
            exact rt _ _ _ _ _ hP hS dX4_judge_112 rfl
          · have hM := ite_f c46 hM
            refine lv_lload_n hx hb dX4_judge_49 rfl (lv_at hl 2 rfl) ?_
            refine lv_iload_n hx hb dX4_judge_50 rfl (lv_at hl 1 rfl) ?_
            refine lv_iconst (v := (1 : Int32)) hx hb dX4_judge_51 (by decide) ?_
            refine lv_isub hx hb dX4_judge_52 ?_
            refine lv_iload hx hb dX4_judge_53 (lv_at hl 3 rfl) ?_
            refine lv_isub hx hb dX4_judge_55 ?_
            obtain ⟨x56, h56, hM⟩ := bind_e hM
            refine rdS (As := [.int ((v1 - (1 : Int32)) - v4_43)]) (rest := [.long v2]) (st2 := [.long x56, .long v2]) ⟨hx, hb, hml, hown, hU⟩ hE (okX4_tenThousands ((v1 - (1 : Int32)) - v4_43) x56 h56) lk_X4_209 (hP.sub [] rfl) rfl hl.1 rfl (Nat.le_of_ble_eq_true rfl) ⟨Nat.le_of_ble_eq_true rfl, Nat.le_of_ble_eq_true rfl⟩ dX4_judge_56 ⟨Nat.le_refl _, Nat.le_refl _⟩ rfl ?_
            obtain ⟨g59, hM⟩ := ldv_e hM
            refine lv_ldiv hx hb dX4_judge_59 g59 ?_
            refine lv_ldc2 hx hb hown (hU _ u_26_20) dX4_judge_60 ?_
            refine lv_lrem hx hb dX4_judge_63 (by decide) ?_
            refine lv_l2i (v := (((v2 / x56) - (v2 / x56) / (10000 : Int64) * (10000 : Int64)).toInt32)) hx hb dX4_judge_64 rfl ?_
            obtain ⟨z65, ez65, hM⟩ := bnd_e hM
            rw [← ez65]
            refine lv_istore (lv' := [(5, .int z65), (0, .ref a_t), (1, .int v1), (2, .long v2), (4, .int v4_43)]) hx hb dX4_judge_65 hl (by decide) rfl (fun ls hl => ?_)
            refine lv_aload_n hx hb dX4_judge_67 rfl (lv_at hl 1 rfl) ?_
            refine lv_iload hx hb dX4_judge_68 (lv_at hl 0 rfl) ?_
            refine lv_sipush (v := (1000 : Int32)) hx hb dX4_judge_70 (by decide) ?_
            refine lv_idiv hx hb dX4_judge_73 (by decide) ?_
            refine lv_iload hx hb dX4_judge_74 (lv_at hl 0 rfl) ?_
            refine lv_bipush (v := (100 : Int32)) hx hb dX4_judge_76 (by decide) ?_
            refine lv_idiv hx hb dX4_judge_78 (by decide) ?_
            refine lv_bipush (v := (10 : Int32)) hx hb dX4_judge_79 (by decide) ?_
            refine lv_irem hx hb dX4_judge_81 (by decide) ?_
            refine lv_iload hx hb dX4_judge_82 (lv_at hl 0 rfl) ?_
            refine lv_bipush (v := (10 : Int32)) hx hb dX4_judge_84 (by decide) ?_
            refine lv_idiv hx hb dX4_judge_86 (by decide) ?_
            refine lv_bipush (v := (10 : Int32)) hx hb dX4_judge_87 (by decide) ?_
            refine lv_irem hx hb dX4_judge_89 (by decide) ?_
            refine lv_iload hx hb dX4_judge_90 (lv_at hl 0 rfl) ?_
            refine lv_bipush (v := (10 : Int32)) hx hb dX4_judge_92 (by decide) ?_
            refine lv_irem hx hb dX4_judge_94 (by decide) ?_
            obtain ⟨x95, h95, hM⟩ := bind_e hM
            refine muV (As := [.int (z65 / (1000 : Int32)), .int ((z65 / (100 : Int32)) - (z65 / (100 : Int32)) / (10 : Int32) * (10 : Int32)), .int ((z65 / (10 : Int32)) - (z65 / (10 : Int32)) / (10 : Int32) * (10 : Int32)), .int (z65 - z65 / (10 : Int32) * (10 : Int32))]) (rest := []) (st2 := [.int (b2i x95.1)]) (nw := [(a_t, .inr (4, [.ref a_t_text, .int s_t.1, .int s_t.2.1, .ref a_t_paper, .ref a_t_now, .ref a_t_trial, .ref a_t_diary, .int s_t.2.2.1, .int s_t.2.2.2.1, .ref a_t_kept, .ref a_t_isKept, .ref a_t_seenAt, .int s_t.2.2.2.2.1, .long s_t.2.2.2.2.2.2.2.2.2, .ref a_t_worth, .int s_t.2.2.2.2.2.1, .int s_t.2.2.2.2.2.2.1, .ref a_t_readPaper, .ref a_t_read, .int s_t.2.2.2.2.2.2.2.1, .int s_t.2.2.2.2.2.2.2.2.1])), (a_t_now, .inl (cI, 66, .inl s_t_now)), (a_t_trial, .inl (cI, 66, .inl x95.2)), (a_t_paper, .inl (cI, 24, .inl s_t_paper))]) ⟨hx, hb, hml, hown, hU⟩ hE (okX4_judged a_t a_t_text a_t_paper a_t_now a_t_trial a_t_diary a_t_kept a_t_isKept a_t_seenAt a_t_worth a_t_readPaper a_t_read s_t s_t_trial_43 s_t_paper (z65 / (1000 : Int32)) ((z65 / (100 : Int32)) - (z65 / (100 : Int32)) / (10 : Int32) * (10 : Int32)) ((z65 / (10 : Int32)) - (z65 / (10 : Int32)) / (10 : Int32) * (10 : Int32)) (z65 - z65 / (10 : Int32) * (10 : Int32)) x95 h95) lk_X4_213 hP hD hS hA [0, 2, 3] rfl rfl rfl rfl rfl rfl hl.1 rfl (Nat.le_of_ble_eq_true rfl) ⟨Nat.le_of_ble_eq_true rfl, Nat.le_of_ble_eq_true rfl⟩ dX4_judge_95 ⟨Nat.le_refl _, Nat.le_refl _⟩ rfl rfl rfl rfl (fun H locs hP hD hS => ?_)
            refine lv_if_ne (tgt := 104) hx hb dX4_judge_98 (by decide) (fun c98 => ?_) (fun c98 => ?_)
            · have hM := ite_t (b2i_ne0 c98) hM
              refine lv_iinc (v := (v4_43 + (1 : Int32))) (lv' := [(4, .int (v4_43 + (1 : Int32))), (5, .int z65), (0, .ref a_t), (1, .int v1), (2, .long v2)]) hx hb dX4_judge_104 hl (k := 4) rfl rfl (by decide) rfl (fun ls hl => ?_)
              refine lv_goto (tgt := 43) hx hb dX4_judge_107 (by decide) ?_
              exact ih_43 (v4_43 + (1 : Int32)) x95.2 hM ls _ _ hP hD hS (lv_sub hl [2, 3, 4, 0] rfl)
            · have hM := ite_f (b2i_eq0 c98) hM
              refine lv_iload hx hb dX4_judge_101 (lv_at hl 4 rfl) ?_
              cases hM
              exact rt _ _ _ _ _ hP hS dX4_judge_103 rfl
      exact w_43 FU (0 : Int32) x37 hM ls _ _ hP hD hS (lv_sub hl [1, 2, 3, 0] rfl)
    · have hM := ite_f (b2i_eq0 c23) hM
      refine lv_bipush (v := (-2 : Int32)) hx hb dX4_judge_26 (by decide) ?_
      cases hM
      exact rt _ _ _ _ _ hP hS dX4_judge_28 rfl
noncomputable def mX4_keep_b21 (s_t_isKept : Nat → Int32) (s_t_now : Nat → Int32) (v1 : Int32) : Nat → Int32 → (Nat → Int32) → Option (Int32 × (Nat → Int32) × (Nat → Int32))
  | 0, _, _ => none
  | n + 1, v2, s_t_kept => (if (66 : Int32) ≤ v2 then rd s_t_now 66 (41 : Int32) (fun x56 => some (x56, s_t_isKept, s_t_kept)) else rd s_t_now 66 v2 (fun x42 => wr s_t_kept 132 (((66 : Int32) * v1) + v2) x42 (fun x43 => mX4_keep_b21 s_t_isKept s_t_now v1 n (v2 + (1 : Int32)) x43)))
noncomputable def mX4_keep (s_t_isKept : Nat → Int32) (s_t_now : Nat → Int32) (s_t_kept : Nat → Int32) (v1 : Int32) : Option (Int32 × (Nat → Int32) × (Nat → Int32)) := (mX4_in (v1.toInt64) (0 : Int64) (1 : Int64)).bind (fun x4 => (if x4 = true then wr s_t_isKept 2 v1 (1 : Int32) (fun x18 => mX4_keep_b21 x18 s_t_now v1 FU (0 : Int32) s_t_kept) else some ((-1 : Int32), s_t_isKept, s_t_kept)))
set_option maxHeartbeats 4000000 in
set_option maxRecDepth 100000 in
theorem okX4_keep {l : Launch} {dC : Nat → ClassId} {dI : Nat → Nat → Nat} {cI cC cZ : ClassId} (a_t a_t_text a_t_paper a_t_now a_t_trial a_t_diary a_t_kept a_t_isKept a_t_seenAt a_t_worth a_t_readPaper a_t_read : Nat) (s_t : Int32 × Int32 × Int32 × Int32 × Int32 × Int32 × Int32 × Int32 × Int32 × Int64) (s_t_isKept : Nat → Int32) (s_t_now : Nat → Int32) (s_t_kept : Nat → Int32) (v1 : Int32) (res : Int32 × (Nat → Int32) × (Nat → Int32)) (hM : mX4_keep s_t_isKept s_t_now s_t_kept v1 = some res) : Mu l yX4_keep cX4_keep 3 (some .int) 1 25 (dC, dI) cI cC cZ [(a_t, .inr (4, [.ref a_t_text, .int s_t.1, .int s_t.2.1, .ref a_t_paper, .ref a_t_now, .ref a_t_trial, .ref a_t_diary, .int s_t.2.2.1, .int s_t.2.2.2.1, .ref a_t_kept, .ref a_t_isKept, .ref a_t_seenAt, .int s_t.2.2.2.2.1, .long s_t.2.2.2.2.2.2.2.2.2, .ref a_t_worth, .int s_t.2.2.2.2.2.1, .int s_t.2.2.2.2.2.2.1, .ref a_t_readPaper, .ref a_t_read, .int s_t.2.2.2.2.2.2.2.1, .int s_t.2.2.2.2.2.2.2.2.1])), (a_t_isKept, .inl (cZ, 2, .inl s_t_isKept)), (a_t_now, .inl (cI, 66, .inl s_t_now)), (a_t_kept, .inl (cI, 132, .inl s_t_kept))] [(a_t, .inr (4, [.ref a_t_text, .int s_t.1, .int s_t.2.1, .ref a_t_paper, .ref a_t_now, .ref a_t_trial, .ref a_t_diary, .int s_t.2.2.1, .int s_t.2.2.2.1, .ref a_t_kept, .ref a_t_isKept, .ref a_t_seenAt, .int s_t.2.2.2.2.1, .long s_t.2.2.2.2.2.2.2.2.2, .ref a_t_worth, .int s_t.2.2.2.2.2.1, .int s_t.2.2.2.2.2.2.1, .ref a_t_readPaper, .ref a_t_read, .int s_t.2.2.2.2.2.2.2.1, .int s_t.2.2.2.2.2.2.2.2.1])), (a_t_isKept, .inl (cZ, 2, .inl res.2.1)), (a_t_now, .inl (cI, 66, .inl s_t_now)), (a_t_kept, .inl (cI, 132, .inl res.2.2))] [.ref a_t, .int v1] (some (.int res.1)) := by
  refine Mu.ofI (by decide) (Nat.le_of_ble_eq_true rfl) [(0, .ref a_t), (1, .int v1)] rfl ?_
  intro p e s m args below meth c ls Q A hx hb hml hown hU hE hP hD hS hA rt hl
  have hown : s.vm.findClass RX4 = some m.cls := hown
  unfold mX4_keep at hM
  refine lv_iload_n hx hb dX4_keep_0 rfl (lv_at hl 1 rfl) ?_
  refine lv_i2l (v := (v1.toInt64)) hx hb dX4_keep_1 rfl ?_
  refine lv_lconst (v := (0 : Int64)) hx hb dX4_keep_2 (by decide) ?_
  refine lv_lconst (v := (1 : Int64)) hx hb dX4_keep_3 (by decide) ?_
  obtain ⟨x4, h4, hM⟩ := bind_e hM
  refine rdS (As := [.long (v1.toInt64), .long (0 : Int64), .long (1 : Int64)]) (rest := []) (st2 := [.int (b2i x4)]) ⟨hx, hb, hml, hown, hU⟩ hE (okX4_in (v1.toInt64) (0 : Int64) (1 : Int64) x4 h4) lk_X4_50 (hP.sub [] rfl) rfl hl.1 rfl (Nat.le_of_ble_eq_true rfl) ⟨Nat.le_of_ble_eq_true rfl, Nat.le_of_ble_eq_true rfl⟩ dX4_keep_4 ⟨Nat.le_refl _, Nat.le_refl _⟩ rfl ?_
  refine lv_if_ne (tgt := 12) hx hb dX4_keep_7 (by decide) (fun c7 => ?_) (fun c7 => ?_)
  · have hM := ite_t (b2i_ne0 c7) hM
    refine lv_aload_n hx hb dX4_keep_12 rfl (lv_at hl 0 rfl) ?_
    refine va_get (D := (dC, dI)) (ci := 4) (v := .ref a_t_isKept) (C := RX4) (T := TX4) (N := 21) hx hb hU inlX4 hown hE.1 hP 0 rfl rfl 10 (by decide) (hU _ u_4_20) (fun _ h9 => h9) rfl dX4_keep_13 ?_
    refine lv_iload_n hx hb dX4_keep_16 rfl (lv_at hl 1 rfl) ?_
    refine lv_iconst (v := (1 : Int32)) hx hb dX4_keep_17 (by decide) ?_
    obtain ⟨g18, hM⟩ := wr_e hM
    refine va_zast hx hb hE.1 hP hD hS 1 2 rfl rfl g18 dX4_keep_18 (fun H locs hP hD hS => ?_)
    have hP : va_P (dC, dI) vwCl [(a_t, .inr (4, [.ref a_t_text, .int s_t.1, .int s_t.2.1, .ref a_t_paper, .ref a_t_now, .ref a_t_trial, .ref a_t_diary, .int s_t.2.2.1, .int s_t.2.2.2.1, .ref a_t_kept, .ref a_t_isKept, .ref a_t_seenAt, .int s_t.2.2.2.2.1, .long s_t.2.2.2.2.2.2.2.2.2, .ref a_t_worth, .int s_t.2.2.2.2.2.1, .int s_t.2.2.2.2.2.2.1, .ref a_t_readPaper, .ref a_t_read, .int s_t.2.2.2.2.2.2.2.1, .int s_t.2.2.2.2.2.2.2.2.1])), (a_t_isKept, .inl (cZ, 2, .inl (upd s_t_isKept v1.toNatClampNeg (1 : Int32)))), (a_t_now, .inl (cI, 66, .inl s_t_now)), (a_t_kept, .inl (cI, 132, .inl s_t_kept))] H := hP
    have hD : va_D A [(a_t, .inr (4, [.ref a_t_text, .int s_t.1, .int s_t.2.1, .ref a_t_paper, .ref a_t_now, .ref a_t_trial, .ref a_t_diary, .int s_t.2.2.1, .int s_t.2.2.2.1, .ref a_t_kept, .ref a_t_isKept, .ref a_t_seenAt, .int s_t.2.2.2.2.1, .long s_t.2.2.2.2.2.2.2.2.2, .ref a_t_worth, .int s_t.2.2.2.2.2.1, .int s_t.2.2.2.2.2.2.1, .ref a_t_readPaper, .ref a_t_read, .int s_t.2.2.2.2.2.2.2.1, .int s_t.2.2.2.2.2.2.2.2.1])), (a_t_isKept, .inl (cZ, 2, .inl (upd s_t_isKept v1.toNatClampNeg (1 : Int32)))), (a_t_now, .inl (cI, 66, .inl s_t_now)), (a_t_kept, .inl (cI, 132, .inl s_t_kept))] := hD
    refine lv_iconst (v := (0 : Int32)) hx hb dX4_keep_19 (by decide) ?_
    refine lv_istore_n (lv' := [(2, .int (0 : Int32)), (0, .ref a_t), (1, .int v1)]) hx hb dX4_keep_20 rfl hl (by decide) rfl (fun ls hl => ?_)
    have w_21 : ∀ (n : Nat) (v2_21 : Int32) (s_t_kept_21 : Nat → Int32), mX4_keep_b21 (upd s_t_isKept v1.toNatClampNeg (1 : Int32)) s_t_now v1 n v2_21 s_t_kept_21 = some res → ∀ (ls : Array Slot) (H : Heap) (locs : List Loc), va_P (dC, dI) vwCl [(a_t, .inr (4, [.ref a_t_text, .int s_t.1, .int s_t.2.1, .ref a_t_paper, .ref a_t_now, .ref a_t_trial, .ref a_t_diary, .int s_t.2.2.1, .int s_t.2.2.2.1, .ref a_t_kept, .ref a_t_isKept, .ref a_t_seenAt, .int s_t.2.2.2.2.1, .long s_t.2.2.2.2.2.2.2.2.2, .ref a_t_worth, .int s_t.2.2.2.2.2.1, .int s_t.2.2.2.2.2.2.1, .ref a_t_readPaper, .ref a_t_read, .int s_t.2.2.2.2.2.2.2.1, .int s_t.2.2.2.2.2.2.2.2.1])), (a_t_isKept, .inl (cZ, 2, .inl (upd s_t_isKept v1.toNatClampNeg (1 : Int32)))), (a_t_now, .inl (cI, 66, .inl s_t_now)), (a_t_kept, .inl (cI, 132, .inl s_t_kept_21))] H → va_D A [(a_t, .inr (4, [.ref a_t_text, .int s_t.1, .int s_t.2.1, .ref a_t_paper, .ref a_t_now, .ref a_t_trial, .ref a_t_diary, .int s_t.2.2.1, .int s_t.2.2.2.1, .ref a_t_kept, .ref a_t_isKept, .ref a_t_seenAt, .int s_t.2.2.2.2.1, .long s_t.2.2.2.2.2.2.2.2.2, .ref a_t_worth, .int s_t.2.2.2.2.2.1, .int s_t.2.2.2.2.2.2.1, .ref a_t_readPaper, .ref a_t_read, .int s_t.2.2.2.2.2.2.2.1, .int s_t.2.2.2.2.2.2.2.2.1])), (a_t_isKept, .inl (cZ, 2, .inl (upd s_t_isKept v1.toNatClampNeg (1 : Int32)))), (a_t_now, .inl (cI, 66, .inl s_t_now)), (a_t_kept, .inl (cI, 132, .inl s_t_kept_21))] → va_S A s.heap H locs → lv_has ls 3 [(0, .ref a_t), (1, .int v1), (2, .int v2_21)] → W p l e (RM 1 25) s m args below meth c H locs 0 0 Q (F0 m 21 ls []) := by
      intro n
      induction n with
      | zero =>
        intro v2_21 s_t_kept_21 hM
        rw [mX4_keep_b21] at hM
        cases hM
      | succ n_21 ih_21 =>
        intro v2_21 s_t_kept_21 hM ls H locs hP hD hS hl
        rw [mX4_keep_b21] at hM
        refine lv_iload_n hx hb dX4_keep_21 rfl (lv_at hl 2 rfl) ?_
        refine lv_bipush (v := (66 : Int32)) hx hb dX4_keep_22 (by decide) ?_
        refine lv_icmp_ge (tgt := 50) hx hb dX4_keep_24 (by decide) (fun c24 => ?_) (fun c24 => ?_)
        · have hM := ite_t c24 hM
          refine lv_aload_n hx hb dX4_keep_50 rfl (lv_at hl 0 rfl) ?_
          refine va_get (D := (dC, dI)) (ci := 4) (v := .ref a_t_now) (C := RX4) (T := TX4) (N := 21) hx hb hU inlX4 hown hE.1 hP 0 rfl rfl 4 (by decide) (hU _ u_4_15) (fun _ h9 => h9) rfl dX4_keep_51 ?_
          refine lv_bipush (v := (41 : Int32)) hx hb dX4_keep_54 (by decide) ?_
          obtain ⟨g56, hM⟩ := rd_e hM
          refine va_iald hx hb hE.1 hP 2 0 rfl rfl g56 dX4_keep_56 ?_
          cases hM
          exact rt _ _ _ _ _ hP hS dX4_keep_57 rfl
        · have hM := ite_f c24 hM
          refine lv_aload_n hx hb dX4_keep_27 rfl (lv_at hl 0 rfl) ?_
          refine va_get (D := (dC, dI)) (ci := 4) (v := .ref a_t_kept) (C := RX4) (T := TX4) (N := 21) hx hb hU inlX4 hown hE.1 hP 0 rfl rfl 9 (by decide) (hU _ u_4_18) (fun _ h9 => h9) rfl dX4_keep_28 ?_
          refine lv_bipush (v := (66 : Int32)) hx hb dX4_keep_31 (by decide) ?_
          refine lv_iload_n hx hb dX4_keep_33 rfl (lv_at hl 1 rfl) ?_
          refine lv_imul hx hb dX4_keep_34 ?_
          refine lv_iload_n hx hb dX4_keep_35 rfl (lv_at hl 2 rfl) ?_
          refine lv_iadd hx hb dX4_keep_36 ?_
          refine lv_aload_n hx hb dX4_keep_37 rfl (lv_at hl 0 rfl) ?_
          refine va_get (D := (dC, dI)) (ci := 4) (v := .ref a_t_now) (C := RX4) (T := TX4) (N := 21) hx hb hU inlX4 hown hE.1 hP 0 rfl rfl 4 (by decide) (hU _ u_4_15) (fun _ h9 => h9) rfl dX4_keep_38 ?_
          refine lv_iload_n hx hb dX4_keep_41 rfl (lv_at hl 2 rfl) ?_
          obtain ⟨g42, hM⟩ := rd_e hM
          refine va_iald hx hb hE.1 hP 2 0 rfl rfl g42 dX4_keep_42 ?_
          obtain ⟨g43, hM⟩ := wr_e hM
          refine va_iast hx hb hE.1 hP hD hS 3 0 rfl rfl g43 dX4_keep_43 (fun H locs hP hD hS => ?_)
          have hP : va_P (dC, dI) vwCl [(a_t, .inr (4, [.ref a_t_text, .int s_t.1, .int s_t.2.1, .ref a_t_paper, .ref a_t_now, .ref a_t_trial, .ref a_t_diary, .int s_t.2.2.1, .int s_t.2.2.2.1, .ref a_t_kept, .ref a_t_isKept, .ref a_t_seenAt, .int s_t.2.2.2.2.1, .long s_t.2.2.2.2.2.2.2.2.2, .ref a_t_worth, .int s_t.2.2.2.2.2.1, .int s_t.2.2.2.2.2.2.1, .ref a_t_readPaper, .ref a_t_read, .int s_t.2.2.2.2.2.2.2.1, .int s_t.2.2.2.2.2.2.2.2.1])), (a_t_isKept, .inl (cZ, 2, .inl (upd s_t_isKept v1.toNatClampNeg (1 : Int32)))), (a_t_now, .inl (cI, 66, .inl s_t_now)), (a_t_kept, .inl (cI, 132, .inl (upd s_t_kept_21 (((66 : Int32) * v1) + v2_21).toNatClampNeg (s_t_now v2_21.toNatClampNeg))))] H := hP
          have hD : va_D A [(a_t, .inr (4, [.ref a_t_text, .int s_t.1, .int s_t.2.1, .ref a_t_paper, .ref a_t_now, .ref a_t_trial, .ref a_t_diary, .int s_t.2.2.1, .int s_t.2.2.2.1, .ref a_t_kept, .ref a_t_isKept, .ref a_t_seenAt, .int s_t.2.2.2.2.1, .long s_t.2.2.2.2.2.2.2.2.2, .ref a_t_worth, .int s_t.2.2.2.2.2.1, .int s_t.2.2.2.2.2.2.1, .ref a_t_readPaper, .ref a_t_read, .int s_t.2.2.2.2.2.2.2.1, .int s_t.2.2.2.2.2.2.2.2.1])), (a_t_isKept, .inl (cZ, 2, .inl (upd s_t_isKept v1.toNatClampNeg (1 : Int32)))), (a_t_now, .inl (cI, 66, .inl s_t_now)), (a_t_kept, .inl (cI, 132, .inl (upd s_t_kept_21 (((66 : Int32) * v1) + v2_21).toNatClampNeg (s_t_now v2_21.toNatClampNeg))))] := hD
          refine lv_iinc (v := (v2_21 + (1 : Int32))) (lv' := [(2, .int (v2_21 + (1 : Int32))), (0, .ref a_t), (1, .int v1)]) hx hb dX4_keep_44 hl (k := 2) rfl rfl (by decide) rfl (fun ls hl => ?_)
          refine lv_goto (tgt := 21) hx hb dX4_keep_47 (by decide) ?_
          exact ih_21 (v2_21 + (1 : Int32)) (upd s_t_kept_21 (((66 : Int32) * v1) + v2_21).toNatClampNeg (s_t_now v2_21.toNatClampNeg)) hM ls _ _ hP hD hS (lv_sub hl [1, 2, 0] rfl)
    exact w_21 FU (0 : Int32) s_t_kept hM ls _ _ hP hD hS (lv_sub hl [1, 2, 0] rfl)
  · have hM := ite_f (b2i_eq0 c7) hM
    refine lv_iconst (v := (-1 : Int32)) hx hb dX4_keep_10 (by decide) ?_
    cases hM
    exact rt _ _ _ _ _ hP hS dX4_keep_11 rfl
noncomputable def mX4_lost (s_t : Int32 × Int32 × Int32 × Int32 × Int32 × Int32 × Int32 × Int32 × Int32 × Int64) (s_t_now : Nat → Int32) (s_t_trial : Nat → Int32) (s_t_paper : Nat → Int32) (v1 : Int32) : Option (Int32 × (Nat → Int32)) := (mX4_isPaper s_t v1).bind (fun x2 => (if x2 = true then (if v1 = 0 then some ((-1 : Int32), s_t_trial) else (mX4_copy s_t_now s_t_trial).bind (fun x22 => rd x22 66 (63 : Int32) (fun x32 => wr x22 66 (63 : Int32) (x32 ||| ((1 : Int32) <<< (v1 &&& 31))) (fun x37 => (mX4_those s_t_now s_t_paper (2 : Int32)).bind (fun x44 => (mX4_those x37 s_t_paper (2 : Int32)).bind (fun x53 => some ((x44 &&& (x53 ^^^ (-1 : Int32))), x37))))))) else some ((-1 : Int32), s_t_trial)))
set_option maxHeartbeats 4000000 in
set_option maxRecDepth 100000 in
theorem okX4_lost {l : Launch} {dC : Nat → ClassId} {dI : Nat → Nat → Nat} {cI cC cZ : ClassId} (a_t a_t_text a_t_paper a_t_now a_t_trial a_t_diary a_t_kept a_t_isKept a_t_seenAt a_t_worth a_t_readPaper a_t_read : Nat) (s_t : Int32 × Int32 × Int32 × Int32 × Int32 × Int32 × Int32 × Int32 × Int32 × Int64) (s_t_now : Nat → Int32) (s_t_trial : Nat → Int32) (s_t_paper : Nat → Int32) (v1 : Int32) (res : Int32 × (Nat → Int32)) (hM : mX4_lost s_t s_t_now s_t_trial s_t_paper v1 = some res) : Mu l yX4_lost cX4_lost 2 (some .int) 8 192 (dC, dI) cI cC cZ [(a_t, .inr (4, [.ref a_t_text, .int s_t.1, .int s_t.2.1, .ref a_t_paper, .ref a_t_now, .ref a_t_trial, .ref a_t_diary, .int s_t.2.2.1, .int s_t.2.2.2.1, .ref a_t_kept, .ref a_t_isKept, .ref a_t_seenAt, .int s_t.2.2.2.2.1, .long s_t.2.2.2.2.2.2.2.2.2, .ref a_t_worth, .int s_t.2.2.2.2.2.1, .int s_t.2.2.2.2.2.2.1, .ref a_t_readPaper, .ref a_t_read, .int s_t.2.2.2.2.2.2.2.1, .int s_t.2.2.2.2.2.2.2.2.1])), (a_t_now, .inl (cI, 66, .inl s_t_now)), (a_t_trial, .inl (cI, 66, .inl s_t_trial)), (a_t_paper, .inl (cI, 24, .inl s_t_paper))] [(a_t, .inr (4, [.ref a_t_text, .int s_t.1, .int s_t.2.1, .ref a_t_paper, .ref a_t_now, .ref a_t_trial, .ref a_t_diary, .int s_t.2.2.1, .int s_t.2.2.2.1, .ref a_t_kept, .ref a_t_isKept, .ref a_t_seenAt, .int s_t.2.2.2.2.1, .long s_t.2.2.2.2.2.2.2.2.2, .ref a_t_worth, .int s_t.2.2.2.2.2.1, .int s_t.2.2.2.2.2.2.1, .ref a_t_readPaper, .ref a_t_read, .int s_t.2.2.2.2.2.2.2.1, .int s_t.2.2.2.2.2.2.2.2.1])), (a_t_now, .inl (cI, 66, .inl s_t_now)), (a_t_trial, .inl (cI, 66, .inl res.2)), (a_t_paper, .inl (cI, 24, .inl s_t_paper))] [.ref a_t, .int v1] (some (.int res.1)) := by
  refine Mu.ofI (by decide) (Nat.le_of_ble_eq_true rfl) [(0, .ref a_t), (1, .int v1)] rfl ?_
  intro p e s m args below meth c ls Q A hx hb hml hown hU hE hP hD hS hA rt hl
  have hown : s.vm.findClass RX4 = some m.cls := hown
  unfold mX4_lost at hM
  refine lv_aload_n hx hb dX4_lost_0 rfl (lv_at hl 0 rfl) ?_
  refine lv_iload_n hx hb dX4_lost_1 rfl (lv_at hl 1 rfl) ?_
  obtain ⟨x2, h2, hM⟩ := bind_e hM
  refine rdV (As := [.int v1]) (rest := []) (st2 := [.int (b2i x2)]) ⟨hx, hb, hml, hown, hU⟩ hE (okX4_isPaper a_t a_t_text a_t_paper a_t_now a_t_trial a_t_diary a_t_kept a_t_isKept a_t_seenAt a_t_worth a_t_readPaper a_t_read s_t v1 x2 h2) lk_X4_165 (hP.sub [0] rfl) rfl rfl rfl hl.1 rfl (Nat.le_of_ble_eq_true rfl) ⟨Nat.le_of_ble_eq_true rfl, Nat.le_of_ble_eq_true rfl⟩ dX4_lost_2 ⟨Nat.le_refl _, Nat.le_refl _⟩ rfl ?_
  refine lv_if_eq (tgt := 12) hx hb dX4_lost_5 (by decide) (fun c5 => ?_) (fun c5 => ?_)
  · have hM := ite_f (b2i_eq0 c5) hM
    refine lv_iconst (v := (-1 : Int32)) hx hb dX4_lost_12 (by decide) ?_
    cases hM
    exact rt _ _ _ _ _ hP hS dX4_lost_13 rfl
  · have hM := ite_t (b2i_ne0 c5) hM
    refine lv_iload_n hx hb dX4_lost_8 rfl (lv_at hl 1 rfl) ?_
    refine lv_if_ne (tgt := 14) hx hb dX4_lost_9 (by decide) (fun c9 => ?_) (fun c9 => ?_)
    · have hM := ite_f c9 hM
      refine lv_aload_n hx hb dX4_lost_14 rfl (lv_at hl 0 rfl) ?_
      refine va_get (D := (dC, dI)) (ci := 4) (v := .ref a_t_now) (C := RX4) (T := TX4) (N := 21) hx hb hU inlX4 hown hE.1 hP 0 rfl rfl 4 (by decide) (hU _ u_4_15) (fun _ h9 => h9) rfl dX4_lost_15 ?_
      refine lv_aload_n hx hb dX4_lost_18 rfl (lv_at hl 0 rfl) ?_
      refine va_get (D := (dC, dI)) (ci := 4) (v := .ref a_t_trial) (C := RX4) (T := TX4) (N := 21) hx hb hU inlX4 hown hE.1 hP 0 rfl rfl 5 (by decide) (hU _ u_4_16) (fun _ h9 => h9) rfl dX4_lost_19 ?_
      obtain ⟨x22, h22, hM⟩ := bind_e hM
      refine muS (As := [.ref a_t_now, .ref a_t_trial]) (rest := []) (st2 := []) (nw := [(a_t, .inr (4, [.ref a_t_text, .int s_t.1, .int s_t.2.1, .ref a_t_paper, .ref a_t_now, .ref a_t_trial, .ref a_t_diary, .int s_t.2.2.1, .int s_t.2.2.2.1, .ref a_t_kept, .ref a_t_isKept, .ref a_t_seenAt, .int s_t.2.2.2.2.1, .long s_t.2.2.2.2.2.2.2.2.2, .ref a_t_worth, .int s_t.2.2.2.2.2.1, .int s_t.2.2.2.2.2.2.1, .ref a_t_readPaper, .ref a_t_read, .int s_t.2.2.2.2.2.2.2.1, .int s_t.2.2.2.2.2.2.2.2.1])), (a_t_now, .inl (cI, 66, .inl s_t_now)), (a_t_trial, .inl (cI, 66, .inl x22)), (a_t_paper, .inl (cI, 24, .inl s_t_paper))]) ⟨hx, hb, hml, hown, hU⟩ hE (okX4_copy a_t_now a_t_trial s_t_now s_t_trial x22 h22) lk_X4_113 hP hD hS hA [1, 2] rfl rfl rfl rfl hl.1 rfl (Nat.le_of_ble_eq_true rfl) ⟨Nat.le_of_ble_eq_true rfl, Nat.le_of_ble_eq_true rfl⟩ dX4_lost_22 ⟨Nat.le_refl _, Nat.le_refl _⟩ rfl rfl rfl rfl (fun H locs hP hD hS => ?_)
      refine lv_aload_n hx hb dX4_lost_25 rfl (lv_at hl 0 rfl) ?_
      refine va_get (D := (dC, dI)) (ci := 4) (v := .ref a_t_trial) (C := RX4) (T := TX4) (N := 21) hx hb hU inlX4 hown hE.1 hP 0 rfl rfl 5 (by decide) (hU _ u_4_16) (fun _ h9 => h9) rfl dX4_lost_26 ?_
      refine lv_bipush (v := (63 : Int32)) hx hb dX4_lost_29 (by decide) ?_
      refine lv_dup2_11 hx hb dX4_lost_31 rfl rfl ?_
      obtain ⟨g32, hM⟩ := rd_e hM
      refine va_iald hx hb hE.1 hP 2 0 rfl rfl g32 dX4_lost_32 ?_
      refine lv_iconst (v := (1 : Int32)) hx hb dX4_lost_33 (by decide) ?_
      refine lv_iload_n hx hb dX4_lost_34 rfl (lv_at hl 1 rfl) ?_
      refine lv_ishl hx hb dX4_lost_35 ?_
      refine lv_ior hx hb dX4_lost_36 ?_
      obtain ⟨g37, hM⟩ := wr_e hM
      refine va_iast hx hb hE.1 hP hD hS 2 0 rfl rfl g37 dX4_lost_37 (fun H locs hP hD hS => ?_)
      have hP : va_P (dC, dI) vwCl [(a_t, .inr (4, [.ref a_t_text, .int s_t.1, .int s_t.2.1, .ref a_t_paper, .ref a_t_now, .ref a_t_trial, .ref a_t_diary, .int s_t.2.2.1, .int s_t.2.2.2.1, .ref a_t_kept, .ref a_t_isKept, .ref a_t_seenAt, .int s_t.2.2.2.2.1, .long s_t.2.2.2.2.2.2.2.2.2, .ref a_t_worth, .int s_t.2.2.2.2.2.1, .int s_t.2.2.2.2.2.2.1, .ref a_t_readPaper, .ref a_t_read, .int s_t.2.2.2.2.2.2.2.1, .int s_t.2.2.2.2.2.2.2.2.1])), (a_t_now, .inl (cI, 66, .inl s_t_now)), (a_t_trial, .inl (cI, 66, .inl (upd x22 (63 : Int32).toNatClampNeg ((x22 (63 : Int32).toNatClampNeg) ||| ((1 : Int32) <<< (v1 &&& 31)))))), (a_t_paper, .inl (cI, 24, .inl s_t_paper))] H := hP
      have hD : va_D A [(a_t, .inr (4, [.ref a_t_text, .int s_t.1, .int s_t.2.1, .ref a_t_paper, .ref a_t_now, .ref a_t_trial, .ref a_t_diary, .int s_t.2.2.1, .int s_t.2.2.2.1, .ref a_t_kept, .ref a_t_isKept, .ref a_t_seenAt, .int s_t.2.2.2.2.1, .long s_t.2.2.2.2.2.2.2.2.2, .ref a_t_worth, .int s_t.2.2.2.2.2.1, .int s_t.2.2.2.2.2.2.1, .ref a_t_readPaper, .ref a_t_read, .int s_t.2.2.2.2.2.2.2.1, .int s_t.2.2.2.2.2.2.2.2.1])), (a_t_now, .inl (cI, 66, .inl s_t_now)), (a_t_trial, .inl (cI, 66, .inl (upd x22 (63 : Int32).toNatClampNeg ((x22 (63 : Int32).toNatClampNeg) ||| ((1 : Int32) <<< (v1 &&& 31)))))), (a_t_paper, .inl (cI, 24, .inl s_t_paper))] := hD
      refine lv_aload_n hx hb dX4_lost_38 rfl (lv_at hl 0 rfl) ?_
      refine lv_aload_n hx hb dX4_lost_39 rfl (lv_at hl 0 rfl) ?_
      refine va_get (D := (dC, dI)) (ci := 4) (v := .ref a_t_now) (C := RX4) (T := TX4) (N := 21) hx hb hU inlX4 hown hE.1 hP 0 rfl rfl 4 (by decide) (hU _ u_4_15) (fun _ h9 => h9) rfl dX4_lost_40 ?_
      refine lv_iconst (v := (2 : Int32)) hx hb dX4_lost_43 (by decide) ?_
      obtain ⟨x44, h44, hM⟩ := bind_e hM
      refine rdV (As := [.ref a_t_now, .int (2 : Int32)]) (rest := []) (st2 := [.int x44]) ⟨hx, hb, hml, hown, hU⟩ hE (okX4_those a_t a_t_text a_t_paper a_t_now a_t_trial a_t_diary a_t_kept a_t_isKept a_t_seenAt a_t_worth a_t_readPaper a_t_read a_t_now s_t s_t_now s_t_paper (2 : Int32) x44 h44) lk_X4_156 (hP.sub [0, 1, 3] rfl) rfl rfl rfl hl.1 rfl (Nat.le_of_ble_eq_true rfl) ⟨Nat.le_of_ble_eq_true rfl, Nat.le_of_ble_eq_true rfl⟩ dX4_lost_44 ⟨Nat.le_refl _, Nat.le_refl _⟩ rfl ?_
      refine lv_aload_n hx hb dX4_lost_47 rfl (lv_at hl 0 rfl) ?_
      refine lv_aload_n hx hb dX4_lost_48 rfl (lv_at hl 0 rfl) ?_
      refine va_get (D := (dC, dI)) (ci := 4) (v := .ref a_t_trial) (C := RX4) (T := TX4) (N := 21) hx hb hU inlX4 hown hE.1 hP 0 rfl rfl 5 (by decide) (hU _ u_4_16) (fun _ h9 => h9) rfl dX4_lost_49 ?_
      refine lv_iconst (v := (2 : Int32)) hx hb dX4_lost_52 (by decide) ?_
      obtain ⟨x53, h53, hM⟩ := bind_e hM
      refine rdV (As := [.ref a_t_trial, .int (2 : Int32)]) (rest := [.int x44]) (st2 := [.int x53, .int x44]) ⟨hx, hb, hml, hown, hU⟩ hE (okX4_those a_t a_t_text a_t_paper a_t_now a_t_trial a_t_diary a_t_kept a_t_isKept a_t_seenAt a_t_worth a_t_readPaper a_t_read a_t_trial s_t (upd x22 (63 : Int32).toNatClampNeg ((x22 (63 : Int32).toNatClampNeg) ||| ((1 : Int32) <<< (v1 &&& 31)))) s_t_paper (2 : Int32) x53 h53) lk_X4_156 (hP.sub [0, 2, 3] rfl) rfl rfl rfl hl.1 rfl (Nat.le_of_ble_eq_true rfl) ⟨Nat.le_of_ble_eq_true rfl, Nat.le_of_ble_eq_true rfl⟩ dX4_lost_53 ⟨Nat.le_refl _, Nat.le_refl _⟩ rfl ?_
      refine lv_iconst (v := (-1 : Int32)) hx hb dX4_lost_56 (by decide) ?_
      refine lv_ixor hx hb dX4_lost_57 ?_
      refine lv_iand hx hb dX4_lost_58 ?_
      cases hM
      exact rt _ _ _ _ _ hP hS dX4_lost_59 rfl
    · have hM := ite_t c9 hM
      refine lv_iconst (v := (-1 : Int32)) hx hb dX4_lost_12 (by decide) ?_
      cases hM
      exact rt _ _ _ _ _ hP hS dX4_lost_13 rfl
noncomputable def mX4_makerOf_b81 (k12 : Int32 → Int32 → Option (Int32)) (s_t : Int32 × Int32 × Int32 × Int32 × Int32 × Int32 × Int32 × Int32 × Int32 × Int64) (s_t_paper : Nat → Int32) (s_t_now : Nat → Int32) (v2 : Int32) (v3 : Int32) (v4 : Int32) (t0 : Bool) : Option (Int32) := (if t0 = true then rd s_t_paper 24 (((4 : Int32) * v4) + (2 : Int32)) (fun x98 => rd s_t_paper 24 (((4 : Int32) * v3) + (2 : Int32)) (fun x108 => (if x98 ≤ x108 then k12 v3 (v4 + (1 : Int32)) else k12 v4 (v4 + (1 : Int32))))) else k12 v3 (v4 + (1 : Int32)))
noncomputable def mX4_makerOf_b12 (s_t : Int32 × Int32 × Int32 × Int32 × Int32 × Int32 × Int32 × Int32 × Int32 × Int64) (s_t_paper : Nat → Int32) (s_t_now : Nat → Int32) (v2 : Int32) : Nat → Int32 → Int32 → Option (Int32)
  | 0, _, _ => none
  | n + 1, v3, v4 => (if s_t.2.1 ≤ v4 then some (v3) else (mX4_stands s_t_paper s_t_now v4).bind (fun x28 => (if x28 = true then rd s_t_now 66 v2 (fun x39 => rd s_t_now 66 (v2 + (1 : Int32)) (fun x47 => rd s_t_paper 24 (((4 : Int32) * v4) + (1 : Int32)) (fun x58 => rd s_t_paper 24 (((4 : Int32) * v4) + (2 : Int32)) (fun x69 => (mX4_isWithin x39 x47 x58 x69).bind (fun x70 => (if x70 = true then mX4_makerOf_b81 (mX4_makerOf_b12 s_t s_t_paper s_t_now v2 n) s_t s_t_paper s_t_now v2 v3 v4 true else mX4_makerOf_b81 (mX4_makerOf_b12 s_t s_t_paper s_t_now v2 n) s_t s_t_paper s_t_now v2 v3 v4 false)))))) else mX4_makerOf_b81 (mX4_makerOf_b12 s_t s_t_paper s_t_now v2 n) s_t s_t_paper s_t_now v2 v3 v4 false)))
noncomputable def mX4_makerOf (s_t : Int32 × Int32 × Int32 × Int32 × Int32 × Int32 × Int32 × Int32 × Int32 × Int64) (s_t_paper : Nat → Int32) (s_t_now : Nat → Int32) (v1 : Int32) : Option (Int32) := mX4_makerOf_b12 s_t s_t_paper s_t_now ((42 : Int32) + ((3 : Int32) * v1)) FU (0 : Int32) (1 : Int32)
set_option maxHeartbeats 4000000 in
set_option maxRecDepth 100000 in
theorem okX4_makerOf {l : Launch} {dC : Nat → ClassId} {dI : Nat → Nat → Nat} {cI cC cZ : ClassId} (a_t a_t_text a_t_paper a_t_now a_t_trial a_t_diary a_t_kept a_t_isKept a_t_seenAt a_t_worth a_t_readPaper a_t_read : Nat) (s_t : Int32 × Int32 × Int32 × Int32 × Int32 × Int32 × Int32 × Int32 × Int32 × Int64) (s_t_paper : Nat → Int32) (s_t_now : Nat → Int32) (v1 : Int32) (res : Int32) (hM : mX4_makerOf s_t s_t_paper s_t_now v1 = some res) : Rd l yX4_makerOf cX4_makerOf 6 (some .int) 3 69 (dC, dI) cI cC cZ [(a_t, .inr (4, [.ref a_t_text, .int s_t.1, .int s_t.2.1, .ref a_t_paper, .ref a_t_now, .ref a_t_trial, .ref a_t_diary, .int s_t.2.2.1, .int s_t.2.2.2.1, .ref a_t_kept, .ref a_t_isKept, .ref a_t_seenAt, .int s_t.2.2.2.2.1, .long s_t.2.2.2.2.2.2.2.2.2, .ref a_t_worth, .int s_t.2.2.2.2.2.1, .int s_t.2.2.2.2.2.2.1, .ref a_t_readPaper, .ref a_t_read, .int s_t.2.2.2.2.2.2.2.1, .int s_t.2.2.2.2.2.2.2.2.1])), (a_t_paper, .inl (cI, 24, .inl s_t_paper)), (a_t_now, .inl (cI, 66, .inl s_t_now))] [.ref a_t, .int v1] (some (.int res)) := by
  refine Rd.ofI (by decide) (Nat.le_of_ble_eq_true rfl) [(0, .ref a_t), (1, .int v1)] rfl ?_
  intro p e s m args below meth c ls Q hx hb hml hown hU hE hP rt hl
  have hown : s.vm.findClass RX4 = some m.cls := hown
  unfold mX4_makerOf at hM
  refine lv_bipush (v := (42 : Int32)) hx hb dX4_makerOf_0 (by decide) ?_
  refine lv_iconst (v := (3 : Int32)) hx hb dX4_makerOf_2 (by decide) ?_
  refine lv_iload_n hx hb dX4_makerOf_3 rfl (lv_at hl 1 rfl) ?_
  refine lv_imul hx hb dX4_makerOf_4 ?_
  refine lv_iadd hx hb dX4_makerOf_5 ?_
  refine lv_istore_n (lv' := [(2, .int ((42 : Int32) + ((3 : Int32) * v1))), (0, .ref a_t), (1, .int v1)]) hx hb dX4_makerOf_6 rfl hl (by decide) rfl (fun ls hl => ?_)
  refine lv_iconst (v := (0 : Int32)) hx hb dX4_makerOf_7 (by decide) ?_
  refine lv_istore_n (lv' := [(3, .int (0 : Int32)), (2, .int ((42 : Int32) + ((3 : Int32) * v1))), (0, .ref a_t), (1, .int v1)]) hx hb dX4_makerOf_8 rfl hl (by decide) rfl (fun ls hl => ?_)
  refine lv_iconst (v := (1 : Int32)) hx hb dX4_makerOf_9 (by decide) ?_
  refine lv_istore (lv' := [(4, .int (1 : Int32)), (3, .int (0 : Int32)), (2, .int ((42 : Int32) + ((3 : Int32) * v1))), (0, .ref a_t), (1, .int v1)]) hx hb dX4_makerOf_10 hl (by decide) rfl (fun ls hl => ?_)
  have w_12 : ∀ (n : Nat) (v3_12 : Int32) (v4_12 : Int32), mX4_makerOf_b12 s_t s_t_paper s_t_now ((42 : Int32) + ((3 : Int32) * v1)) n v3_12 v4_12 = some res → ∀ (ls : Array Slot), lv_has ls 6 [(0, .ref a_t), (2, .int ((42 : Int32) + ((3 : Int32) * v1))), (3, .int v3_12), (4, .int v4_12)] → W p l e (RM 3 69) s m args below meth c s.heap [] 0 0 Q (F0 m 12 ls []) := by
    intro n
    induction n with
    | zero =>
      intro v3_12 v4_12 hM
      rw [mX4_makerOf_b12] at hM
      cases hM
    | succ n_12 ih_12 =>
      intro v3_12 v4_12 hM ls hl
      rw [mX4_makerOf_b12] at hM
      refine lv_iload hx hb dX4_makerOf_12 (lv_at hl 3 rfl) ?_
      refine lv_aload_n hx hb dX4_makerOf_14 rfl (lv_at hl 0 rfl) ?_
      refine va_get (D := (dC, dI)) (ci := 4) (v := .int s_t.2.1) (C := RX4) (T := TX4) (N := 21) hx hb hU inlX4 hown hE.1 hP 0 rfl rfl 2 (by decide) (hU _ u_5_1) (fun _ h9 => h9) rfl dX4_makerOf_15 ?_
      refine lv_icmp_ge (tgt := 125) hx hb dX4_makerOf_18 (by decide) (fun c18 => ?_) (fun c18 => ?_)
      · have hM := ite_t c18 hM
        refine lv_iload_n hx hb dX4_makerOf_125 rfl (lv_at hl 2 rfl) ?_
        cases hM
        exact rt _ _ _ dX4_makerOf_126 rfl
      · have hM := ite_f c18 hM
        refine lv_aload_n hx hb dX4_makerOf_21 rfl (lv_at hl 0 rfl) ?_
        refine lv_aload_n hx hb dX4_makerOf_22 rfl (lv_at hl 0 rfl) ?_
        refine va_get (D := (dC, dI)) (ci := 4) (v := .ref a_t_now) (C := RX4) (T := TX4) (N := 21) hx hb hU inlX4 hown hE.1 hP 0 rfl rfl 4 (by decide) (hU _ u_4_15) (fun _ h9 => h9) rfl dX4_makerOf_23 ?_
        refine lv_iload hx hb dX4_makerOf_26 (lv_at hl 3 rfl) ?_
        obtain ⟨x28, h28, hM⟩ := bind_e hM
        refine rdV (As := [.ref a_t_now, .int v4_12]) (rest := []) (st2 := [.int (b2i x28)]) ⟨hx, hb, hml, hown, hU⟩ hE (okX4_stands a_t a_t_text a_t_paper a_t_now a_t_trial a_t_diary a_t_kept a_t_isKept a_t_seenAt a_t_worth a_t_readPaper a_t_read a_t_now s_t s_t_paper s_t_now v4_12 x28 h28) lk_X4_127 (hP.sub [0, 1, 2] rfl) rfl rfl rfl hl.1 rfl (Nat.le_of_ble_eq_true rfl) ⟨Nat.le_of_ble_eq_true rfl, Nat.le_of_ble_eq_true rfl⟩ dX4_makerOf_28 ⟨Nat.le_refl _, Nat.le_refl _⟩ rfl ?_
        have w_81 : ∀ (t0_81 : Bool), mX4_makerOf_b81 (mX4_makerOf_b12 s_t s_t_paper s_t_now ((42 : Int32) + ((3 : Int32) * v1)) n_12) s_t s_t_paper s_t_now ((42 : Int32) + ((3 : Int32) * v1)) v3_12 v4_12 t0_81 = some res → ∀ (ls : Array Slot), lv_has ls 6 [(0, .ref a_t), (2, .int ((42 : Int32) + ((3 : Int32) * v1))), (3, .int v3_12), (4, .int v4_12)] → W p l e (RM 3 69) s m args below meth c s.heap [] 0 0 Q (F0 m 81 ls [.int (b2i t0_81)]) := by
          intro t0_81 hM ls hl
          unfold mX4_makerOf_b81 at hM
          refine lv_istore (lv' := [(5, .int (b2i t0_81)), (0, .ref a_t), (2, .int ((42 : Int32) + ((3 : Int32) * v1))), (3, .int v3_12), (4, .int v4_12)]) hx hb dX4_makerOf_81 hl (by decide) rfl (fun ls hl => ?_)
          refine lv_iload hx hb dX4_makerOf_83 (lv_at hl 0 rfl) ?_
          refine lv_if_eq (tgt := 117) hx hb dX4_makerOf_85 (by decide) (fun c85 => ?_) (fun c85 => ?_)
          · have hM := ite_f (b2i_eq0 c85) hM
            refine lv_iload_n hx hb dX4_makerOf_117 rfl (lv_at hl 3 rfl) ?_
            refine lv_istore_n (lv' := [(3, .int v3_12), (5, .int (b2i t0_81)), (0, .ref a_t), (2, .int ((42 : Int32) + ((3 : Int32) * v1))), (4, .int v4_12)]) hx hb dX4_makerOf_118 rfl hl (by decide) rfl (fun ls hl => ?_)
            refine lv_iinc (v := (v4_12 + (1 : Int32))) (lv' := [(4, .int (v4_12 + (1 : Int32))), (3, .int v3_12), (5, .int (b2i t0_81)), (0, .ref a_t), (2, .int ((42 : Int32) + ((3 : Int32) * v1)))]) hx hb dX4_makerOf_119 hl (k := 4) rfl rfl (by decide) rfl (fun ls hl => ?_)
            refine lv_goto (tgt := 12) hx hb dX4_makerOf_122 (by decide) ?_
            exact ih_12 v3_12 (v4_12 + (1 : Int32)) hM ls (lv_sub hl [3, 4, 1, 0] rfl)
          · have hM := ite_t (b2i_ne0 c85) hM
            refine lv_aload_n hx hb dX4_makerOf_88 rfl (lv_at hl 1 rfl) ?_
            refine va_get (D := (dC, dI)) (ci := 4) (v := .ref a_t_paper) (C := RX4) (T := TX4) (N := 21) hx hb hU inlX4 hown hE.1 hP 0 rfl rfl 3 (by decide) (hU _ u_4_14) (fun _ h9 => h9) rfl dX4_makerOf_89 ?_
            refine lv_iconst (v := (4 : Int32)) hx hb dX4_makerOf_92 (by decide) ?_
            refine lv_iload hx hb dX4_makerOf_93 (lv_at hl 4 rfl) ?_
            refine lv_imul hx hb dX4_makerOf_95 ?_
            refine lv_iconst (v := (2 : Int32)) hx hb dX4_makerOf_96 (by decide) ?_
            refine lv_iadd hx hb dX4_makerOf_97 ?_
            obtain ⟨g98, hM⟩ := rd_e hM
            refine va_iald hx hb hE.1 hP 1 0 rfl rfl g98 dX4_makerOf_98 ?_
            refine lv_aload_n hx hb dX4_makerOf_99 rfl (lv_at hl 1 rfl) ?_
            refine va_get (D := (dC, dI)) (ci := 4) (v := .ref a_t_paper) (C := RX4) (T := TX4) (N := 21) hx hb hU inlX4 hown hE.1 hP 0 rfl rfl 3 (by decide) (hU _ u_4_14) (fun _ h9 => h9) rfl dX4_makerOf_100 ?_
            refine lv_iconst (v := (4 : Int32)) hx hb dX4_makerOf_103 (by decide) ?_
            refine lv_iload_n hx hb dX4_makerOf_104 rfl (lv_at hl 3 rfl) ?_
            refine lv_imul hx hb dX4_makerOf_105 ?_
            refine lv_iconst (v := (2 : Int32)) hx hb dX4_makerOf_106 (by decide) ?_
            refine lv_iadd hx hb dX4_makerOf_107 ?_
            obtain ⟨g108, hM⟩ := rd_e hM
            refine va_iald hx hb hE.1 hP 1 0 rfl rfl g108 dX4_makerOf_108 ?_
            refine lv_icmp_le (tgt := 117) hx hb dX4_makerOf_109 (by decide) (fun c109 => ?_) (fun c109 => ?_)
            · have hM := ite_t c109 hM
              refine lv_iload_n hx hb dX4_makerOf_117 rfl (lv_at hl 3 rfl) ?_
              refine lv_istore_n (lv' := [(3, .int v3_12), (5, .int (b2i t0_81)), (0, .ref a_t), (2, .int ((42 : Int32) + ((3 : Int32) * v1))), (4, .int v4_12)]) hx hb dX4_makerOf_118 rfl hl (by decide) rfl (fun ls hl => ?_)
              refine lv_iinc (v := (v4_12 + (1 : Int32))) (lv' := [(4, .int (v4_12 + (1 : Int32))), (3, .int v3_12), (5, .int (b2i t0_81)), (0, .ref a_t), (2, .int ((42 : Int32) + ((3 : Int32) * v1)))]) hx hb dX4_makerOf_119 hl (k := 4) rfl rfl (by decide) rfl (fun ls hl => ?_)
              refine lv_goto (tgt := 12) hx hb dX4_makerOf_122 (by decide) ?_
              exact ih_12 v3_12 (v4_12 + (1 : Int32)) hM ls (lv_sub hl [3, 4, 1, 0] rfl)
            · have hM := ite_f c109 hM
              refine lv_iload hx hb dX4_makerOf_112 (lv_at hl 4 rfl) ?_
              refine lv_goto (tgt := 118) hx hb dX4_makerOf_114 (by decide) ?_
              refine lv_istore_n (lv' := [(3, .int v4_12), (5, .int (b2i t0_81)), (0, .ref a_t), (2, .int ((42 : Int32) + ((3 : Int32) * v1))), (4, .int v4_12)]) hx hb dX4_makerOf_118 rfl hl (by decide) rfl (fun ls hl => ?_)
              refine lv_iinc (v := (v4_12 + (1 : Int32))) (lv' := [(4, .int (v4_12 + (1 : Int32))), (3, .int v4_12), (5, .int (b2i t0_81)), (0, .ref a_t), (2, .int ((42 : Int32) + ((3 : Int32) * v1)))]) hx hb dX4_makerOf_119 hl (k := 4) rfl rfl (by decide) rfl (fun ls hl => ?_)
              refine lv_goto (tgt := 12) hx hb dX4_makerOf_122 (by decide) ?_
              exact ih_12 v4_12 (v4_12 + (1 : Int32)) hM ls (lv_sub hl [3, 4, 1, 0] rfl)
        refine lv_if_eq (tgt := 80) hx hb dX4_makerOf_31 (by decide) (fun c31 => ?_) (fun c31 => ?_)
        · have hM := ite_f (b2i_eq0 c31) hM
          refine lv_iconst (v := (0 : Int32)) hx hb dX4_makerOf_80 (by decide) ?_
          exact w_81 false hM ls (lv_sub hl [0, 1, 2, 3] rfl)
        · have hM := ite_t (b2i_ne0 c31) hM
          refine lv_aload_n hx hb dX4_makerOf_34 rfl (lv_at hl 0 rfl) ?_
          refine va_get (D := (dC, dI)) (ci := 4) (v := .ref a_t_now) (C := RX4) (T := TX4) (N := 21) hx hb hU inlX4 hown hE.1 hP 0 rfl rfl 4 (by decide) (hU _ u_4_15) (fun _ h9 => h9) rfl dX4_makerOf_35 ?_
          refine lv_iload_n hx hb dX4_makerOf_38 rfl (lv_at hl 1 rfl) ?_
          obtain ⟨g39, hM⟩ := rd_e hM
          refine va_iald hx hb hE.1 hP 2 0 rfl rfl g39 dX4_makerOf_39 ?_
          refine lv_aload_n hx hb dX4_makerOf_40 rfl (lv_at hl 0 rfl) ?_
          refine va_get (D := (dC, dI)) (ci := 4) (v := .ref a_t_now) (C := RX4) (T := TX4) (N := 21) hx hb hU inlX4 hown hE.1 hP 0 rfl rfl 4 (by decide) (hU _ u_4_15) (fun _ h9 => h9) rfl dX4_makerOf_41 ?_
          refine lv_iload_n hx hb dX4_makerOf_44 rfl (lv_at hl 1 rfl) ?_
          refine lv_iconst (v := (1 : Int32)) hx hb dX4_makerOf_45 (by decide) ?_
          refine lv_iadd hx hb dX4_makerOf_46 ?_
          obtain ⟨g47, hM⟩ := rd_e hM
          refine va_iald hx hb hE.1 hP 2 0 rfl rfl g47 dX4_makerOf_47 ?_
          refine lv_aload_n hx hb dX4_makerOf_48 rfl (lv_at hl 0 rfl) ?_
          refine va_get (D := (dC, dI)) (ci := 4) (v := .ref a_t_paper) (C := RX4) (T := TX4) (N := 21) hx hb hU inlX4 hown hE.1 hP 0 rfl rfl 3 (by decide) (hU _ u_4_14) (fun _ h9 => h9) rfl dX4_makerOf_49 ?_
          refine lv_iconst (v := (4 : Int32)) hx hb dX4_makerOf_52 (by decide) ?_
          refine lv_iload hx hb dX4_makerOf_53 (lv_at hl 3 rfl) ?_
          refine lv_imul hx hb dX4_makerOf_55 ?_
          refine lv_iconst (v := (1 : Int32)) hx hb dX4_makerOf_56 (by decide) ?_
          refine lv_iadd hx hb dX4_makerOf_57 ?_
          obtain ⟨g58, hM⟩ := rd_e hM
          refine va_iald hx hb hE.1 hP 1 0 rfl rfl g58 dX4_makerOf_58 ?_
          refine lv_aload_n hx hb dX4_makerOf_59 rfl (lv_at hl 0 rfl) ?_
          refine va_get (D := (dC, dI)) (ci := 4) (v := .ref a_t_paper) (C := RX4) (T := TX4) (N := 21) hx hb hU inlX4 hown hE.1 hP 0 rfl rfl 3 (by decide) (hU _ u_4_14) (fun _ h9 => h9) rfl dX4_makerOf_60 ?_
          refine lv_iconst (v := (4 : Int32)) hx hb dX4_makerOf_63 (by decide) ?_
          refine lv_iload hx hb dX4_makerOf_64 (lv_at hl 3 rfl) ?_
          refine lv_imul hx hb dX4_makerOf_66 ?_
          refine lv_iconst (v := (2 : Int32)) hx hb dX4_makerOf_67 (by decide) ?_
          refine lv_iadd hx hb dX4_makerOf_68 ?_
          obtain ⟨g69, hM⟩ := rd_e hM
          refine va_iald hx hb hE.1 hP 1 0 rfl rfl g69 dX4_makerOf_69 ?_
          obtain ⟨x70, h70, hM⟩ := bind_e hM
          refine rdS (As := [.int (s_t_now ((42 : Int32) + ((3 : Int32) * v1)).toNatClampNeg), .int (s_t_now (((42 : Int32) + ((3 : Int32) * v1)) + (1 : Int32)).toNatClampNeg), .int (s_t_paper (((4 : Int32) * v4_12) + (1 : Int32)).toNatClampNeg), .int (s_t_paper (((4 : Int32) * v4_12) + (2 : Int32)).toNatClampNeg)]) (rest := []) (st2 := [.int (b2i x70)]) ⟨hx, hb, hml, hown, hU⟩ hE (okX4_isWithin (s_t_now ((42 : Int32) + ((3 : Int32) * v1)).toNatClampNeg) (s_t_now (((42 : Int32) + ((3 : Int32) * v1)) + (1 : Int32)).toNatClampNeg) (s_t_paper (((4 : Int32) * v4_12) + (1 : Int32)).toNatClampNeg) (s_t_paper (((4 : Int32) * v4_12) + (2 : Int32)).toNatClampNeg) x70 h70) lk_X4_123 (hP.sub [] rfl) rfl hl.1 rfl (Nat.le_of_ble_eq_true rfl) ⟨Nat.le_of_ble_eq_true rfl, Nat.le_of_ble_eq_true rfl⟩ dX4_makerOf_70 ⟨Nat.le_refl _, Nat.le_refl _⟩ rfl ?_
          refine lv_if_eq (tgt := 80) hx hb dX4_makerOf_73 (by decide) (fun c73 => ?_) (fun c73 => ?_)
          · have hM := ite_f (b2i_eq0 c73) hM
            refine lv_iconst (v := (0 : Int32)) hx hb dX4_makerOf_80 (by decide) ?_
            exact w_81 false hM ls (lv_sub hl [0, 1, 2, 3] rfl)
          · have hM := ite_t (b2i_ne0 c73) hM
            refine lv_iconst (v := (1 : Int32)) hx hb dX4_makerOf_76 (by decide) ?_
            refine lv_goto (tgt := 81) hx hb dX4_makerOf_77 (by decide) ?_
            exact w_81 true hM ls (lv_sub hl [0, 1, 2, 3] rfl)
  exact w_12 FU (0 : Int32) (1 : Int32) hM ls (lv_sub hl [3, 2, 1, 0] rfl)
noncomputable def mX4_night (s_t : Int32 × Int32 × Int32 × Int32 × Int32 × Int32 × Int32 × Int32 × Int32 × Int64) (s_t_now : Nat → Int32) (s_t_diary : Nat → Int32) : Option (Int32 × (Int32 × Int32 × Int32 × Int32 × Int32 × Int32 × Int32 × Int32 × Int32 × Int64) × (Nat → Int32) × (Nat → Int32)) := rd s_t_now 66 (65 : Int32) (fun x6 => (if x6 = (9 : Int32) then some ((-3 : Int32), s_t, s_t_now, s_t_diary) else (mX4_note s_t s_t_now s_t_diary).bind (fun x16 => rd s_t_now 66 (65 : Int32) (fun x26 => wr s_t_now 66 (65 : Int32) (x26 + (1 : Int32)) (fun x29 => rd x29 66 (65 : Int32) (fun x36 => some (x36, x16.1, x29, x16.2)))))))
set_option maxHeartbeats 4000000 in
set_option maxRecDepth 100000 in
theorem okX4_night {l : Launch} {dC : Nat → ClassId} {dI : Nat → Nat → Nat} {cI cC cZ : ClassId} (a_t a_t_text a_t_paper a_t_now a_t_trial a_t_diary a_t_kept a_t_isKept a_t_seenAt a_t_worth a_t_readPaper a_t_read : Nat) (s_t : Int32 × Int32 × Int32 × Int32 × Int32 × Int32 × Int32 × Int32 × Int32 × Int64) (s_t_now : Nat → Int32) (s_t_diary : Nat → Int32) (res : Int32 × (Int32 × Int32 × Int32 × Int32 × Int32 × Int32 × Int32 × Int32 × Int32 × Int64) × (Nat → Int32) × (Nat → Int32)) (hM : mX4_night s_t s_t_now s_t_diary = some res) : Mu l yX4_night cX4_night 1 (some .int) 1 21 (dC, dI) cI cC cZ [(a_t, .inr (4, [.ref a_t_text, .int s_t.1, .int s_t.2.1, .ref a_t_paper, .ref a_t_now, .ref a_t_trial, .ref a_t_diary, .int s_t.2.2.1, .int s_t.2.2.2.1, .ref a_t_kept, .ref a_t_isKept, .ref a_t_seenAt, .int s_t.2.2.2.2.1, .long s_t.2.2.2.2.2.2.2.2.2, .ref a_t_worth, .int s_t.2.2.2.2.2.1, .int s_t.2.2.2.2.2.2.1, .ref a_t_readPaper, .ref a_t_read, .int s_t.2.2.2.2.2.2.2.1, .int s_t.2.2.2.2.2.2.2.2.1])), (a_t_now, .inl (cI, 66, .inl s_t_now)), (a_t_diary, .inl (cI, 924, .inl s_t_diary))] [(a_t, .inr (4, [.ref a_t_text, .int res.2.1.1, .int res.2.1.2.1, .ref a_t_paper, .ref a_t_now, .ref a_t_trial, .ref a_t_diary, .int res.2.1.2.2.1, .int res.2.1.2.2.2.1, .ref a_t_kept, .ref a_t_isKept, .ref a_t_seenAt, .int res.2.1.2.2.2.2.1, .long res.2.1.2.2.2.2.2.2.2.2.2, .ref a_t_worth, .int res.2.1.2.2.2.2.2.1, .int res.2.1.2.2.2.2.2.2.1, .ref a_t_readPaper, .ref a_t_read, .int res.2.1.2.2.2.2.2.2.2.1, .int res.2.1.2.2.2.2.2.2.2.2.1])), (a_t_now, .inl (cI, 66, .inl res.2.2.1)), (a_t_diary, .inl (cI, 924, .inl res.2.2.2))] [.ref a_t] (some (.int res.1)) := by
  refine Mu.ofI (by decide) (Nat.le_of_ble_eq_true rfl) [(0, .ref a_t)] rfl ?_
  intro p e s m args below meth c ls Q A hx hb hml hown hU hE hP hD hS hA rt hl
  have hown : s.vm.findClass RX4 = some m.cls := hown
  unfold mX4_night at hM
  refine lv_aload_n hx hb dX4_night_0 rfl (lv_at hl 0 rfl) ?_
  refine va_get (D := (dC, dI)) (ci := 4) (v := .ref a_t_now) (C := RX4) (T := TX4) (N := 21) hx hb hU inlX4 hown hE.1 hP 0 rfl rfl 4 (by decide) (hU _ u_4_15) (fun _ h9 => h9) rfl dX4_night_1 ?_
  refine lv_bipush (v := (65 : Int32)) hx hb dX4_night_4 (by decide) ?_
  obtain ⟨g6, hM⟩ := rd_e hM
  refine va_iald hx hb hE.1 hP 1 0 rfl rfl g6 dX4_night_6 ?_
  refine lv_bipush (v := (9 : Int32)) hx hb dX4_night_7 (by decide) ?_
  refine lv_icmp_ne (tgt := 15) hx hb dX4_night_9 (by decide) (fun c9 => ?_) (fun c9 => ?_)
  · have hM := ite_f c9 hM
    refine lv_aload_n hx hb dX4_night_15 rfl (lv_at hl 0 rfl) ?_
    obtain ⟨x16, h16, hM⟩ := bind_e hM
    refine muV (As := []) (rest := []) (st2 := []) (nw := [(a_t, .inr (4, [.ref a_t_text, .int x16.1.1, .int x16.1.2.1, .ref a_t_paper, .ref a_t_now, .ref a_t_trial, .ref a_t_diary, .int x16.1.2.2.1, .int x16.1.2.2.2.1, .ref a_t_kept, .ref a_t_isKept, .ref a_t_seenAt, .int x16.1.2.2.2.2.1, .long x16.1.2.2.2.2.2.2.2.2.2, .ref a_t_worth, .int x16.1.2.2.2.2.2.1, .int x16.1.2.2.2.2.2.2.1, .ref a_t_readPaper, .ref a_t_read, .int x16.1.2.2.2.2.2.2.2.1, .int x16.1.2.2.2.2.2.2.2.2.1])), (a_t_now, .inl (cI, 66, .inl s_t_now)), (a_t_diary, .inl (cI, 924, .inl x16.2))]) ⟨hx, hb, hml, hown, hU⟩ hE (okX4_note a_t a_t_text a_t_paper a_t_now a_t_trial a_t_diary a_t_kept a_t_isKept a_t_seenAt a_t_worth a_t_readPaper a_t_read s_t s_t_now s_t_diary x16 h16) lk_X4_188 hP hD hS hA [0, 1, 2] rfl rfl rfl rfl rfl rfl hl.1 rfl (Nat.le_of_ble_eq_true rfl) ⟨Nat.le_of_ble_eq_true rfl, Nat.le_of_ble_eq_true rfl⟩ dX4_night_16 ⟨Nat.le_refl _, Nat.le_refl _⟩ rfl rfl rfl rfl (fun H locs hP hD hS => ?_)
    refine lv_aload_n hx hb dX4_night_19 rfl (lv_at hl 0 rfl) ?_
    refine va_get (D := (dC, dI)) (ci := 4) (v := .ref a_t_now) (C := RX4) (T := TX4) (N := 21) hx hb hU inlX4 hown hE.1 hP 0 rfl rfl 4 (by decide) (hU _ u_4_15) (fun _ h9 => h9) rfl dX4_night_20 ?_
    refine lv_bipush (v := (65 : Int32)) hx hb dX4_night_23 (by decide) ?_
    refine lv_dup2_11 hx hb dX4_night_25 rfl rfl ?_
    obtain ⟨g26, hM⟩ := rd_e hM
    refine va_iald hx hb hE.1 hP 1 0 rfl rfl g26 dX4_night_26 ?_
    refine lv_iconst (v := (1 : Int32)) hx hb dX4_night_27 (by decide) ?_
    refine lv_iadd hx hb dX4_night_28 ?_
    obtain ⟨g29, hM⟩ := wr_e hM
    refine va_iast hx hb hE.1 hP hD hS 1 0 rfl rfl g29 dX4_night_29 (fun H locs hP hD hS => ?_)
    have hP : va_P (dC, dI) vwCl [(a_t, .inr (4, [.ref a_t_text, .int x16.1.1, .int x16.1.2.1, .ref a_t_paper, .ref a_t_now, .ref a_t_trial, .ref a_t_diary, .int x16.1.2.2.1, .int x16.1.2.2.2.1, .ref a_t_kept, .ref a_t_isKept, .ref a_t_seenAt, .int x16.1.2.2.2.2.1, .long x16.1.2.2.2.2.2.2.2.2.2, .ref a_t_worth, .int x16.1.2.2.2.2.2.1, .int x16.1.2.2.2.2.2.2.1, .ref a_t_readPaper, .ref a_t_read, .int x16.1.2.2.2.2.2.2.2.1, .int x16.1.2.2.2.2.2.2.2.2.1])), (a_t_now, .inl (cI, 66, .inl (upd s_t_now (65 : Int32).toNatClampNeg ((s_t_now (65 : Int32).toNatClampNeg) + (1 : Int32))))), (a_t_diary, .inl (cI, 924, .inl x16.2))] H := hP
    have hD : va_D A [(a_t, .inr (4, [.ref a_t_text, .int x16.1.1, .int x16.1.2.1, .ref a_t_paper, .ref a_t_now, .ref a_t_trial, .ref a_t_diary, .int x16.1.2.2.1, .int x16.1.2.2.2.1, .ref a_t_kept, .ref a_t_isKept, .ref a_t_seenAt, .int x16.1.2.2.2.2.1, .long x16.1.2.2.2.2.2.2.2.2.2, .ref a_t_worth, .int x16.1.2.2.2.2.2.1, .int x16.1.2.2.2.2.2.2.1, .ref a_t_readPaper, .ref a_t_read, .int x16.1.2.2.2.2.2.2.2.1, .int x16.1.2.2.2.2.2.2.2.2.1])), (a_t_now, .inl (cI, 66, .inl (upd s_t_now (65 : Int32).toNatClampNeg ((s_t_now (65 : Int32).toNatClampNeg) + (1 : Int32))))), (a_t_diary, .inl (cI, 924, .inl x16.2))] := hD
    refine lv_aload_n hx hb dX4_night_30 rfl (lv_at hl 0 rfl) ?_
    refine va_get (D := (dC, dI)) (ci := 4) (v := .ref a_t_now) (C := RX4) (T := TX4) (N := 21) hx hb hU inlX4 hown hE.1 hP 0 rfl rfl 4 (by decide) (hU _ u_4_15) (fun _ h9 => h9) rfl dX4_night_31 ?_
    refine lv_bipush (v := (65 : Int32)) hx hb dX4_night_34 (by decide) ?_
    obtain ⟨g36, hM⟩ := rd_e hM
    refine va_iald hx hb hE.1 hP 1 0 rfl rfl g36 dX4_night_36 ?_
    cases hM
    exact rt _ _ _ _ _ hP hS dX4_night_37 rfl
  · have hM := ite_t c9 hM
    refine lv_bipush (v := (-3 : Int32)) hx hb dX4_night_12 (by decide) ?_
    cases hM
    exact rt _ _ _ _ _ hP hS dX4_night_14 rfl
noncomputable def mX4_paper (s_t : Int32 × Int32 × Int32 × Int32 × Int32 × Int32 × Int32 × Int32 × Int32 × Int64) (s_t_paper : Nat → Int32) (s_t_now : Nat → Int32) (v1 : Int32) (v2 : Int32) : Option (Int32) := (mX4_isPaper s_t v1).bind (fun x2 => (if x2 = true then (if v2 = (0 : Int32) then (if v1 = 0 then some ((-9 : Int32)) else rd s_t_paper 24 ((4 : Int32) * v1) (fun x60 => some (x60))) else (if v2 = (1 : Int32) then rd s_t_paper 24 (((4 : Int32) * v1) + (1 : Int32)) (fun x71 => some (x71)) else (if v2 = (2 : Int32) then rd s_t_paper 24 (((4 : Int32) * v1) + (2 : Int32)) (fun x82 => some (x82)) else (if v2 = (3 : Int32) then (if v1 = 0 then some ((-9 : Int32)) else rd s_t_paper 24 (((4 : Int32) * v1) + (3 : Int32)) (fun x102 => some (x102))) else (if v2 = (4 : Int32) then (mX4_stands s_t_paper s_t_now v1).bind (fun x110 => (if x110 = true then some ((1 : Int32)) else some ((0 : Int32)))) else some ((-2 : Int32))))))) else some ((-1 : Int32))))
set_option maxHeartbeats 4000000 in
set_option maxRecDepth 100000 in
theorem okX4_paper {l : Launch} {dC : Nat → ClassId} {dI : Nat → Nat → Nat} {cI cC cZ : ClassId} (a_t a_t_text a_t_paper a_t_now a_t_trial a_t_diary a_t_kept a_t_isKept a_t_seenAt a_t_worth a_t_readPaper a_t_read : Nat) (s_t : Int32 × Int32 × Int32 × Int32 × Int32 × Int32 × Int32 × Int32 × Int32 × Int64) (s_t_paper : Nat → Int32) (s_t_now : Nat → Int32) (v1 : Int32) (v2 : Int32) (res : Int32) (hM : mX4_paper s_t s_t_paper s_t_now v1 v2 = some res) : Rd l yX4_paper cX4_paper 3 (some .int) 3 69 (dC, dI) cI cC cZ [(a_t, .inr (4, [.ref a_t_text, .int s_t.1, .int s_t.2.1, .ref a_t_paper, .ref a_t_now, .ref a_t_trial, .ref a_t_diary, .int s_t.2.2.1, .int s_t.2.2.2.1, .ref a_t_kept, .ref a_t_isKept, .ref a_t_seenAt, .int s_t.2.2.2.2.1, .long s_t.2.2.2.2.2.2.2.2.2, .ref a_t_worth, .int s_t.2.2.2.2.2.1, .int s_t.2.2.2.2.2.2.1, .ref a_t_readPaper, .ref a_t_read, .int s_t.2.2.2.2.2.2.2.1, .int s_t.2.2.2.2.2.2.2.2.1])), (a_t_paper, .inl (cI, 24, .inl s_t_paper)), (a_t_now, .inl (cI, 66, .inl s_t_now))] [.ref a_t, .int v1, .int v2] (some (.int res)) := by
  refine Rd.ofI (by decide) (Nat.le_of_ble_eq_true rfl) [(0, .ref a_t), (1, .int v1), (2, .int v2)] rfl ?_
  intro p e s m args below meth c ls Q hx hb hml hown hU hE hP rt hl
  have hown : s.vm.findClass RX4 = some m.cls := hown
  unfold mX4_paper at hM
  refine lv_aload_n hx hb dX4_paper_0 rfl (lv_at hl 0 rfl) ?_
  refine lv_iload_n hx hb dX4_paper_1 rfl (lv_at hl 1 rfl) ?_
  obtain ⟨x2, h2, hM⟩ := bind_e hM
  refine rdV (As := [.int v1]) (rest := []) (st2 := [.int (b2i x2)]) ⟨hx, hb, hml, hown, hU⟩ hE (okX4_isPaper a_t a_t_text a_t_paper a_t_now a_t_trial a_t_diary a_t_kept a_t_isKept a_t_seenAt a_t_worth a_t_readPaper a_t_read s_t v1 x2 h2) lk_X4_165 (hP.sub [0] rfl) rfl rfl rfl hl.1 rfl (Nat.le_of_ble_eq_true rfl) ⟨Nat.le_of_ble_eq_true rfl, Nat.le_of_ble_eq_true rfl⟩ dX4_paper_2 ⟨Nat.le_refl _, Nat.le_refl _⟩ rfl ?_
  refine lv_if_ne (tgt := 10) hx hb dX4_paper_5 (by decide) (fun c5 => ?_) (fun c5 => ?_)
  · have hM := ite_t (b2i_ne0 c5) hM
    refine lv_iload_n hx hb dX4_paper_10 rfl (lv_at hl 2 rfl) ?_
    by_cases c11_0 : v2 = (0 : Int32)
    · have hM := ite_t c11_0 hM
      refine lv_tableIn (off := 33) (tgt := 44) hx hb dX4_paper_11 (by rw [c11_0]; decide) (by rw [c11_0]; decide) (by rw [c11_0]; rfl) (by decide) ?_
      refine lv_iload_n hx hb dX4_paper_44 rfl (lv_at hl 1 rfl) ?_
      refine lv_if_ne (tgt := 53) hx hb dX4_paper_45 (by decide) (fun c45 => ?_) (fun c45 => ?_)
      · have hM := ite_f c45 hM
        refine lv_aload_n hx hb dX4_paper_53 rfl (lv_at hl 0 rfl) ?_
        refine va_get (D := (dC, dI)) (ci := 4) (v := .ref a_t_paper) (C := RX4) (T := TX4) (N := 21) hx hb hU inlX4 hown hE.1 hP 0 rfl rfl 3 (by decide) (hU _ u_4_14) (fun _ h9 => h9) rfl dX4_paper_54 ?_
        refine lv_iconst (v := (4 : Int32)) hx hb dX4_paper_57 (by decide) ?_
        refine lv_iload_n hx hb dX4_paper_58 rfl (lv_at hl 1 rfl) ?_
        refine lv_imul hx hb dX4_paper_59 ?_
        obtain ⟨g60, hM⟩ := rd_e hM
        refine va_iald hx hb hE.1 hP 1 0 rfl rfl g60 dX4_paper_60 ?_
        cases hM
        exact rt _ _ _ dX4_paper_61 rfl
      · have hM := ite_t c45 hM
        refine lv_bipush (v := (-9 : Int32)) hx hb dX4_paper_48 (by decide) ?_
        refine lv_goto (tgt := 61) hx hb dX4_paper_50 (by decide) ?_
        cases hM
        exact rt _ _ _ dX4_paper_61 rfl
    have hM := ite_f c11_0 hM
    by_cases c11_1 : v2 = (1 : Int32)
    · have hM := ite_t c11_1 hM
      refine lv_tableIn (off := 51) (tgt := 62) hx hb dX4_paper_11 (by rw [c11_1]; decide) (by rw [c11_1]; decide) (by rw [c11_1]; rfl) (by decide) ?_
      refine lv_aload_n hx hb dX4_paper_62 rfl (lv_at hl 0 rfl) ?_
      refine va_get (D := (dC, dI)) (ci := 4) (v := .ref a_t_paper) (C := RX4) (T := TX4) (N := 21) hx hb hU inlX4 hown hE.1 hP 0 rfl rfl 3 (by decide) (hU _ u_4_14) (fun _ h9 => h9) rfl dX4_paper_63 ?_
      refine lv_iconst (v := (4 : Int32)) hx hb dX4_paper_66 (by decide) ?_
      refine lv_iload_n hx hb dX4_paper_67 rfl (lv_at hl 1 rfl) ?_
      refine lv_imul hx hb dX4_paper_68 ?_
      refine lv_iconst (v := (1 : Int32)) hx hb dX4_paper_69 (by decide) ?_
      refine lv_iadd hx hb dX4_paper_70 ?_
      obtain ⟨g71, hM⟩ := rd_e hM
      refine va_iald hx hb hE.1 hP 1 0 rfl rfl g71 dX4_paper_71 ?_
      cases hM
      exact rt _ _ _ dX4_paper_72 rfl
    have hM := ite_f c11_1 hM
    by_cases c11_2 : v2 = (2 : Int32)
    · have hM := ite_t c11_2 hM
      refine lv_tableIn (off := 62) (tgt := 73) hx hb dX4_paper_11 (by rw [c11_2]; decide) (by rw [c11_2]; decide) (by rw [c11_2]; rfl) (by decide) ?_
      refine lv_aload_n hx hb dX4_paper_73 rfl (lv_at hl 0 rfl) ?_
      refine va_get (D := (dC, dI)) (ci := 4) (v := .ref a_t_paper) (C := RX4) (T := TX4) (N := 21) hx hb hU inlX4 hown hE.1 hP 0 rfl rfl 3 (by decide) (hU _ u_4_14) (fun _ h9 => h9) rfl dX4_paper_74 ?_
      refine lv_iconst (v := (4 : Int32)) hx hb dX4_paper_77 (by decide) ?_
      refine lv_iload_n hx hb dX4_paper_78 rfl (lv_at hl 1 rfl) ?_
      refine lv_imul hx hb dX4_paper_79 ?_
      refine lv_iconst (v := (2 : Int32)) hx hb dX4_paper_80 (by decide) ?_
      refine lv_iadd hx hb dX4_paper_81 ?_
      obtain ⟨g82, hM⟩ := rd_e hM
      refine va_iald hx hb hE.1 hP 1 0 rfl rfl g82 dX4_paper_82 ?_
      cases hM
      exact rt _ _ _ dX4_paper_83 rfl
    have hM := ite_f c11_2 hM
    by_cases c11_3 : v2 = (3 : Int32)
    · have hM := ite_t c11_3 hM
      refine lv_tableIn (off := 73) (tgt := 84) hx hb dX4_paper_11 (by rw [c11_3]; decide) (by rw [c11_3]; decide) (by rw [c11_3]; rfl) (by decide) ?_
      refine lv_iload_n hx hb dX4_paper_84 rfl (lv_at hl 1 rfl) ?_
      refine lv_if_ne (tgt := 93) hx hb dX4_paper_85 (by decide) (fun c85 => ?_) (fun c85 => ?_)
      · have hM := ite_f c85 hM
        refine lv_aload_n hx hb dX4_paper_93 rfl (lv_at hl 0 rfl) ?_
        refine va_get (D := (dC, dI)) (ci := 4) (v := .ref a_t_paper) (C := RX4) (T := TX4) (N := 21) hx hb hU inlX4 hown hE.1 hP 0 rfl rfl 3 (by decide) (hU _ u_4_14) (fun _ h9 => h9) rfl dX4_paper_94 ?_
        refine lv_iconst (v := (4 : Int32)) hx hb dX4_paper_97 (by decide) ?_
        refine lv_iload_n hx hb dX4_paper_98 rfl (lv_at hl 1 rfl) ?_
        refine lv_imul hx hb dX4_paper_99 ?_
        refine lv_iconst (v := (3 : Int32)) hx hb dX4_paper_100 (by decide) ?_
        refine lv_iadd hx hb dX4_paper_101 ?_
        obtain ⟨g102, hM⟩ := rd_e hM
        refine va_iald hx hb hE.1 hP 1 0 rfl rfl g102 dX4_paper_102 ?_
        cases hM
        exact rt _ _ _ dX4_paper_103 rfl
      · have hM := ite_t c85 hM
        refine lv_bipush (v := (-9 : Int32)) hx hb dX4_paper_88 (by decide) ?_
        refine lv_goto (tgt := 103) hx hb dX4_paper_90 (by decide) ?_
        cases hM
        exact rt _ _ _ dX4_paper_103 rfl
    have hM := ite_f c11_3 hM
    by_cases c11_4 : v2 = (4 : Int32)
    · have hM := ite_t c11_4 hM
      refine lv_tableIn (off := 93) (tgt := 104) hx hb dX4_paper_11 (by rw [c11_4]; decide) (by rw [c11_4]; decide) (by rw [c11_4]; rfl) (by decide) ?_
      refine lv_aload_n hx hb dX4_paper_104 rfl (lv_at hl 0 rfl) ?_
      refine lv_aload_n hx hb dX4_paper_105 rfl (lv_at hl 0 rfl) ?_
      refine va_get (D := (dC, dI)) (ci := 4) (v := .ref a_t_now) (C := RX4) (T := TX4) (N := 21) hx hb hU inlX4 hown hE.1 hP 0 rfl rfl 4 (by decide) (hU _ u_4_15) (fun _ h9 => h9) rfl dX4_paper_106 ?_
      refine lv_iload_n hx hb dX4_paper_109 rfl (lv_at hl 1 rfl) ?_
      obtain ⟨x110, h110, hM⟩ := bind_e hM
      refine rdV (As := [.ref a_t_now, .int v1]) (rest := []) (st2 := [.int (b2i x110)]) ⟨hx, hb, hml, hown, hU⟩ hE (okX4_stands a_t a_t_text a_t_paper a_t_now a_t_trial a_t_diary a_t_kept a_t_isKept a_t_seenAt a_t_worth a_t_readPaper a_t_read a_t_now s_t s_t_paper s_t_now v1 x110 h110) lk_X4_127 (hP.sub [0, 1, 2] rfl) rfl rfl rfl hl.1 rfl (Nat.le_of_ble_eq_true rfl) ⟨Nat.le_of_ble_eq_true rfl, Nat.le_of_ble_eq_true rfl⟩ dX4_paper_110 ⟨Nat.le_refl _, Nat.le_refl _⟩ rfl ?_
      refine lv_if_eq (tgt := 120) hx hb dX4_paper_113 (by decide) (fun c113 => ?_) (fun c113 => ?_)
      · have hM := ite_f (b2i_eq0 c113) hM
        refine lv_iconst (v := (0 : Int32)) hx hb dX4_paper_120 (by decide) ?_
        cases hM
        exact rt _ _ _ dX4_paper_121 rfl
      · have hM := ite_t (b2i_ne0 c113) hM
        refine lv_iconst (v := (1 : Int32)) hx hb dX4_paper_116 (by decide) ?_
        refine lv_goto (tgt := 121) hx hb dX4_paper_117 (by decide) ?_
        cases hM
        exact rt _ _ _ dX4_paper_121 rfl
    have hM := ite_f c11_4 hM
    refine lv_tableOut (tgt := 122) hx hb dX4_paper_11 (sw_out (fun v h1 h2 h3 => by rcases (show v = 0 ∨ v = 1 ∨ v = 2 ∨ v = 3 ∨ v = 4 by omega) with rfl | rfl | rfl | rfl | rfl <;> first | exact c11_0 (Int32.toInt_inj.mp (h3.trans (by decide))) | exact c11_1 (Int32.toInt_inj.mp (h3.trans (by decide))) | exact c11_2 (Int32.toInt_inj.mp (h3.trans (by decide))) | exact c11_3 (Int32.toInt_inj.mp (h3.trans (by decide))) | exact c11_4 (Int32.toInt_inj.mp (h3.trans (by decide))))) (by decide) ?_
    refine lv_bipush (v := (-2 : Int32)) hx hb dX4_paper_122 (by decide) ?_
    cases hM
    exact rt _ _ _ dX4_paper_124 rfl
  · have hM := ite_f (b2i_eq0 c5) hM
    refine lv_iconst (v := (-1 : Int32)) hx hb dX4_paper_8 (by decide) ?_
    cases hM
    exact rt _ _ _ dX4_paper_9 rfl
noncomputable def mX4_revoke (s_t : Int32 × Int32 × Int32 × Int32 × Int32 × Int32 × Int32 × Int32 × Int32 × Int64) (s_t_now : Nat → Int32) (s_t_diary : Nat → Int32) (v1 : Int32) : Option (Int32 × (Int32 × Int32 × Int32 × Int32 × Int32 × Int32 × Int32 × Int32 × Int32 × Int64) × (Nat → Int32) × (Nat → Int32)) := (mX4_isPaper s_t v1).bind (fun x2 => (if x2 = true then (if v1 = 0 then some ((-1 : Int32), s_t, s_t_now, s_t_diary) else (mX4_note s_t s_t_now s_t_diary).bind (fun x15 => rd s_t_now 66 (63 : Int32) (fun x25 => wr s_t_now 66 (63 : Int32) (x25 ^^^ ((1 : Int32) <<< (v1 &&& 31))) (fun x30 => rd x30 66 (63 : Int32) (fun x37 => some (((x37 >>> (v1 &&& 31)) &&& (1 : Int32)), x15.1, x30, x15.2)))))) else some ((-1 : Int32), s_t, s_t_now, s_t_diary)))
set_option maxHeartbeats 4000000 in
set_option maxRecDepth 100000 in
theorem okX4_revoke {l : Launch} {dC : Nat → ClassId} {dI : Nat → Nat → Nat} {cI cC cZ : ClassId} (a_t a_t_text a_t_paper a_t_now a_t_trial a_t_diary a_t_kept a_t_isKept a_t_seenAt a_t_worth a_t_readPaper a_t_read : Nat) (s_t : Int32 × Int32 × Int32 × Int32 × Int32 × Int32 × Int32 × Int32 × Int32 × Int64) (s_t_now : Nat → Int32) (s_t_diary : Nat → Int32) (v1 : Int32) (res : Int32 × (Int32 × Int32 × Int32 × Int32 × Int32 × Int32 × Int32 × Int32 × Int32 × Int64) × (Nat → Int32) × (Nat → Int32)) (hM : mX4_revoke s_t s_t_now s_t_diary v1 = some res) : Mu l yX4_revoke cX4_revoke 2 (some .int) 2 46 (dC, dI) cI cC cZ [(a_t, .inr (4, [.ref a_t_text, .int s_t.1, .int s_t.2.1, .ref a_t_paper, .ref a_t_now, .ref a_t_trial, .ref a_t_diary, .int s_t.2.2.1, .int s_t.2.2.2.1, .ref a_t_kept, .ref a_t_isKept, .ref a_t_seenAt, .int s_t.2.2.2.2.1, .long s_t.2.2.2.2.2.2.2.2.2, .ref a_t_worth, .int s_t.2.2.2.2.2.1, .int s_t.2.2.2.2.2.2.1, .ref a_t_readPaper, .ref a_t_read, .int s_t.2.2.2.2.2.2.2.1, .int s_t.2.2.2.2.2.2.2.2.1])), (a_t_now, .inl (cI, 66, .inl s_t_now)), (a_t_diary, .inl (cI, 924, .inl s_t_diary))] [(a_t, .inr (4, [.ref a_t_text, .int res.2.1.1, .int res.2.1.2.1, .ref a_t_paper, .ref a_t_now, .ref a_t_trial, .ref a_t_diary, .int res.2.1.2.2.1, .int res.2.1.2.2.2.1, .ref a_t_kept, .ref a_t_isKept, .ref a_t_seenAt, .int res.2.1.2.2.2.2.1, .long res.2.1.2.2.2.2.2.2.2.2.2, .ref a_t_worth, .int res.2.1.2.2.2.2.2.1, .int res.2.1.2.2.2.2.2.2.1, .ref a_t_readPaper, .ref a_t_read, .int res.2.1.2.2.2.2.2.2.2.1, .int res.2.1.2.2.2.2.2.2.2.2.1])), (a_t_now, .inl (cI, 66, .inl res.2.2.1)), (a_t_diary, .inl (cI, 924, .inl res.2.2.2))] [.ref a_t, .int v1] (some (.int res.1)) := by
  refine Mu.ofI (by decide) (Nat.le_of_ble_eq_true rfl) [(0, .ref a_t), (1, .int v1)] rfl ?_
  intro p e s m args below meth c ls Q A hx hb hml hown hU hE hP hD hS hA rt hl
  have hown : s.vm.findClass RX4 = some m.cls := hown
  unfold mX4_revoke at hM
  refine lv_aload_n hx hb dX4_revoke_0 rfl (lv_at hl 0 rfl) ?_
  refine lv_iload_n hx hb dX4_revoke_1 rfl (lv_at hl 1 rfl) ?_
  obtain ⟨x2, h2, hM⟩ := bind_e hM
  refine rdV (As := [.int v1]) (rest := []) (st2 := [.int (b2i x2)]) ⟨hx, hb, hml, hown, hU⟩ hE (okX4_isPaper a_t a_t_text a_t_paper a_t_now a_t_trial a_t_diary a_t_kept a_t_isKept a_t_seenAt a_t_worth a_t_readPaper a_t_read s_t v1 x2 h2) lk_X4_165 (hP.sub [0] rfl) rfl rfl rfl hl.1 rfl (Nat.le_of_ble_eq_true rfl) ⟨Nat.le_of_ble_eq_true rfl, Nat.le_of_ble_eq_true rfl⟩ dX4_revoke_2 ⟨Nat.le_refl _, Nat.le_refl _⟩ rfl ?_
  refine lv_if_eq (tgt := 12) hx hb dX4_revoke_5 (by decide) (fun c5 => ?_) (fun c5 => ?_)
  · have hM := ite_f (b2i_eq0 c5) hM
    refine lv_iconst (v := (-1 : Int32)) hx hb dX4_revoke_12 (by decide) ?_
    cases hM
    exact rt _ _ _ _ _ hP hS dX4_revoke_13 rfl
  · have hM := ite_t (b2i_ne0 c5) hM
    refine lv_iload_n hx hb dX4_revoke_8 rfl (lv_at hl 1 rfl) ?_
    refine lv_if_ne (tgt := 14) hx hb dX4_revoke_9 (by decide) (fun c9 => ?_) (fun c9 => ?_)
    · have hM := ite_f c9 hM
      refine lv_aload_n hx hb dX4_revoke_14 rfl (lv_at hl 0 rfl) ?_
      obtain ⟨x15, h15, hM⟩ := bind_e hM
      refine muV (As := []) (rest := []) (st2 := []) (nw := [(a_t, .inr (4, [.ref a_t_text, .int x15.1.1, .int x15.1.2.1, .ref a_t_paper, .ref a_t_now, .ref a_t_trial, .ref a_t_diary, .int x15.1.2.2.1, .int x15.1.2.2.2.1, .ref a_t_kept, .ref a_t_isKept, .ref a_t_seenAt, .int x15.1.2.2.2.2.1, .long x15.1.2.2.2.2.2.2.2.2.2, .ref a_t_worth, .int x15.1.2.2.2.2.2.1, .int x15.1.2.2.2.2.2.2.1, .ref a_t_readPaper, .ref a_t_read, .int x15.1.2.2.2.2.2.2.2.1, .int x15.1.2.2.2.2.2.2.2.2.1])), (a_t_now, .inl (cI, 66, .inl s_t_now)), (a_t_diary, .inl (cI, 924, .inl x15.2))]) ⟨hx, hb, hml, hown, hU⟩ hE (okX4_note a_t a_t_text a_t_paper a_t_now a_t_trial a_t_diary a_t_kept a_t_isKept a_t_seenAt a_t_worth a_t_readPaper a_t_read s_t s_t_now s_t_diary x15 h15) lk_X4_188 hP hD hS hA [0, 1, 2] rfl rfl rfl rfl rfl rfl hl.1 rfl (Nat.le_of_ble_eq_true rfl) ⟨Nat.le_of_ble_eq_true rfl, Nat.le_of_ble_eq_true rfl⟩ dX4_revoke_15 ⟨Nat.le_refl _, Nat.le_refl _⟩ rfl rfl rfl rfl (fun H locs hP hD hS => ?_)
      refine lv_aload_n hx hb dX4_revoke_18 rfl (lv_at hl 0 rfl) ?_
      refine va_get (D := (dC, dI)) (ci := 4) (v := .ref a_t_now) (C := RX4) (T := TX4) (N := 21) hx hb hU inlX4 hown hE.1 hP 0 rfl rfl 4 (by decide) (hU _ u_4_15) (fun _ h9 => h9) rfl dX4_revoke_19 ?_
      refine lv_bipush (v := (63 : Int32)) hx hb dX4_revoke_22 (by decide) ?_
      refine lv_dup2_11 hx hb dX4_revoke_24 rfl rfl ?_
      obtain ⟨g25, hM⟩ := rd_e hM
      refine va_iald hx hb hE.1 hP 1 0 rfl rfl g25 dX4_revoke_25 ?_
      refine lv_iconst (v := (1 : Int32)) hx hb dX4_revoke_26 (by decide) ?_
      refine lv_iload_n hx hb dX4_revoke_27 rfl (lv_at hl 1 rfl) ?_
      refine lv_ishl hx hb dX4_revoke_28 ?_
      refine lv_ixor hx hb dX4_revoke_29 ?_
      obtain ⟨g30, hM⟩ := wr_e hM
      refine va_iast hx hb hE.1 hP hD hS 1 0 rfl rfl g30 dX4_revoke_30 (fun H locs hP hD hS => ?_)
      have hP : va_P (dC, dI) vwCl [(a_t, .inr (4, [.ref a_t_text, .int x15.1.1, .int x15.1.2.1, .ref a_t_paper, .ref a_t_now, .ref a_t_trial, .ref a_t_diary, .int x15.1.2.2.1, .int x15.1.2.2.2.1, .ref a_t_kept, .ref a_t_isKept, .ref a_t_seenAt, .int x15.1.2.2.2.2.1, .long x15.1.2.2.2.2.2.2.2.2.2, .ref a_t_worth, .int x15.1.2.2.2.2.2.1, .int x15.1.2.2.2.2.2.2.1, .ref a_t_readPaper, .ref a_t_read, .int x15.1.2.2.2.2.2.2.2.1, .int x15.1.2.2.2.2.2.2.2.2.1])), (a_t_now, .inl (cI, 66, .inl (upd s_t_now (63 : Int32).toNatClampNeg ((s_t_now (63 : Int32).toNatClampNeg) ^^^ ((1 : Int32) <<< (v1 &&& 31)))))), (a_t_diary, .inl (cI, 924, .inl x15.2))] H := hP
      have hD : va_D A [(a_t, .inr (4, [.ref a_t_text, .int x15.1.1, .int x15.1.2.1, .ref a_t_paper, .ref a_t_now, .ref a_t_trial, .ref a_t_diary, .int x15.1.2.2.1, .int x15.1.2.2.2.1, .ref a_t_kept, .ref a_t_isKept, .ref a_t_seenAt, .int x15.1.2.2.2.2.1, .long x15.1.2.2.2.2.2.2.2.2.2, .ref a_t_worth, .int x15.1.2.2.2.2.2.1, .int x15.1.2.2.2.2.2.2.1, .ref a_t_readPaper, .ref a_t_read, .int x15.1.2.2.2.2.2.2.2.1, .int x15.1.2.2.2.2.2.2.2.2.1])), (a_t_now, .inl (cI, 66, .inl (upd s_t_now (63 : Int32).toNatClampNeg ((s_t_now (63 : Int32).toNatClampNeg) ^^^ ((1 : Int32) <<< (v1 &&& 31)))))), (a_t_diary, .inl (cI, 924, .inl x15.2))] := hD
      refine lv_aload_n hx hb dX4_revoke_31 rfl (lv_at hl 0 rfl) ?_
      refine va_get (D := (dC, dI)) (ci := 4) (v := .ref a_t_now) (C := RX4) (T := TX4) (N := 21) hx hb hU inlX4 hown hE.1 hP 0 rfl rfl 4 (by decide) (hU _ u_4_15) (fun _ h9 => h9) rfl dX4_revoke_32 ?_
      refine lv_bipush (v := (63 : Int32)) hx hb dX4_revoke_35 (by decide) ?_
      obtain ⟨g37, hM⟩ := rd_e hM
      refine va_iald hx hb hE.1 hP 1 0 rfl rfl g37 dX4_revoke_37 ?_
      refine lv_iload_n hx hb dX4_revoke_38 rfl (lv_at hl 1 rfl) ?_
      refine lv_ishr hx hb dX4_revoke_39 ?_
      refine lv_iconst (v := (1 : Int32)) hx hb dX4_revoke_40 (by decide) ?_
      refine lv_iand hx hb dX4_revoke_41 ?_
      cases hM
      exact rt _ _ _ _ _ hP hS dX4_revoke_42 rfl
    · have hM := ite_t c9 hM
      refine lv_iconst (v := (-1 : Int32)) hx hb dX4_revoke_12 (by decide) ?_
      cases hM
      exact rt _ _ _ _ _ hP hS dX4_revoke_13 rfl
noncomputable def mX4_rightBy_b4 (s_t_now : Nat → Int32) (s_t_paper : Nat → Int32) (v1 : Int32) : Nat → Int32 → Int32 → Option (Int32)
  | 0, _, _ => none
  | n + 1, v2, v3 => rd s_t_now 66 (41 : Int32) (fun x11 => (if x11 ≤ v3 then some (v2) else rd s_t_now 66 ((42 : Int32) + ((3 : Int32) * v3)) (fun x35 => rd s_t_now 66 (((42 : Int32) + ((3 : Int32) * v3)) + (1 : Int32)) (fun x44 => rd s_t_now 66 (((42 : Int32) + ((3 : Int32) * v3)) + (2 : Int32)) (fun x53 => (mX4_stateBy s_t_now s_t_paper x35 x44 x53 v1).bind (fun x55 => (if x55 = (2 : Int32) then mX4_rightBy_b4 s_t_now s_t_paper v1 n (v2 + (1 : Int32)) (v3 + (1 : Int32)) else mX4_rightBy_b4 s_t_now s_t_paper v1 n (v2 + (0 : Int32)) (v3 + (1 : Int32)))))))))
noncomputable def mX4_rightBy (s_t_now : Nat → Int32) (s_t_paper : Nat → Int32) (v1 : Int32) : Option (Int32) := mX4_rightBy_b4 s_t_now s_t_paper v1 FU (0 : Int32) (0 : Int32)
set_option maxHeartbeats 4000000 in
set_option maxRecDepth 100000 in
theorem okX4_rightBy {l : Launch} {dC : Nat → ClassId} {dI : Nat → Nat → Nat} {cI cC cZ : ClassId} (a_t a_t_text a_t_paper a_t_now a_t_trial a_t_diary a_t_kept a_t_isKept a_t_seenAt a_t_worth a_t_readPaper a_t_read : Nat) (s_t : Int32 × Int32 × Int32 × Int32 × Int32 × Int32 × Int32 × Int32 × Int32 × Int64) (s_t_now : Nat → Int32) (s_t_paper : Nat → Int32) (v1 : Int32) (res : Int32) (hM : mX4_rightBy s_t_now s_t_paper v1 = some res) : Rd l yX4_rightBy cX4_rightBy 5 (some .int) 5 121 (dC, dI) cI cC cZ [(a_t, .inr (4, [.ref a_t_text, .int s_t.1, .int s_t.2.1, .ref a_t_paper, .ref a_t_now, .ref a_t_trial, .ref a_t_diary, .int s_t.2.2.1, .int s_t.2.2.2.1, .ref a_t_kept, .ref a_t_isKept, .ref a_t_seenAt, .int s_t.2.2.2.2.1, .long s_t.2.2.2.2.2.2.2.2.2, .ref a_t_worth, .int s_t.2.2.2.2.2.1, .int s_t.2.2.2.2.2.2.1, .ref a_t_readPaper, .ref a_t_read, .int s_t.2.2.2.2.2.2.2.1, .int s_t.2.2.2.2.2.2.2.2.1])), (a_t_now, .inl (cI, 66, .inl s_t_now)), (a_t_paper, .inl (cI, 24, .inl s_t_paper))] [.ref a_t, .int v1] (some (.int res)) := by
  refine Rd.ofI (by decide) (Nat.le_of_ble_eq_true rfl) [(0, .ref a_t), (1, .int v1)] rfl ?_
  intro p e s m args below meth c ls Q hx hb hml hown hU hE hP rt hl
  have hown : s.vm.findClass RX4 = some m.cls := hown
  unfold mX4_rightBy at hM
  refine lv_iconst (v := (0 : Int32)) hx hb dX4_rightBy_0 (by decide) ?_
  refine lv_istore_n (lv' := [(2, .int (0 : Int32)), (0, .ref a_t), (1, .int v1)]) hx hb dX4_rightBy_1 rfl hl (by decide) rfl (fun ls hl => ?_)
  refine lv_iconst (v := (0 : Int32)) hx hb dX4_rightBy_2 (by decide) ?_
  refine lv_istore_n (lv' := [(3, .int (0 : Int32)), (2, .int (0 : Int32)), (0, .ref a_t), (1, .int v1)]) hx hb dX4_rightBy_3 rfl hl (by decide) rfl (fun ls hl => ?_)
  have w_4 : ∀ (n : Nat) (v2_4 : Int32) (v3_4 : Int32), mX4_rightBy_b4 s_t_now s_t_paper v1 n v2_4 v3_4 = some res → ∀ (ls : Array Slot), lv_has ls 5 [(0, .ref a_t), (1, .int v1), (2, .int v2_4), (3, .int v3_4)] → W p l e (RM 5 121) s m args below meth c s.heap [] 0 0 Q (F0 m 4 ls []) := by
    intro n
    induction n with
    | zero =>
      intro v2_4 v3_4 hM
      rw [mX4_rightBy_b4] at hM
      cases hM
    | succ n_4 ih_4 =>
      intro v2_4 v3_4 hM ls hl
      rw [mX4_rightBy_b4] at hM
      refine lv_iload_n hx hb dX4_rightBy_4 rfl (lv_at hl 3 rfl) ?_
      refine lv_aload_n hx hb dX4_rightBy_5 rfl (lv_at hl 0 rfl) ?_
      refine va_get (D := (dC, dI)) (ci := 4) (v := .ref a_t_now) (C := RX4) (T := TX4) (N := 21) hx hb hU inlX4 hown hE.1 hP 0 rfl rfl 4 (by decide) (hU _ u_4_15) (fun _ h9 => h9) rfl dX4_rightBy_6 ?_
      refine lv_bipush (v := (41 : Int32)) hx hb dX4_rightBy_9 (by decide) ?_
      obtain ⟨g11, hM⟩ := rd_e hM
      refine va_iald hx hb hE.1 hP 1 0 rfl rfl g11 dX4_rightBy_11 ?_
      refine lv_icmp_ge (tgt := 75) hx hb dX4_rightBy_12 (by decide) (fun c12 => ?_) (fun c12 => ?_)
      · have hM := ite_t c12 hM
        refine lv_iload_n hx hb dX4_rightBy_75 rfl (lv_at hl 2 rfl) ?_
        cases hM
        exact rt _ _ _ dX4_rightBy_76 rfl
      · have hM := ite_f c12 hM
        refine lv_bipush (v := (42 : Int32)) hx hb dX4_rightBy_15 (by decide) ?_
        refine lv_iconst (v := (3 : Int32)) hx hb dX4_rightBy_17 (by decide) ?_
        refine lv_iload_n hx hb dX4_rightBy_18 rfl (lv_at hl 3 rfl) ?_
        refine lv_imul hx hb dX4_rightBy_19 ?_
        refine lv_iadd hx hb dX4_rightBy_20 ?_
        refine lv_istore (lv' := [(4, .int ((42 : Int32) + ((3 : Int32) * v3_4))), (0, .ref a_t), (1, .int v1), (2, .int v2_4), (3, .int v3_4)]) hx hb dX4_rightBy_21 hl (by decide) rfl (fun ls hl => ?_)
        refine lv_iload_n hx hb dX4_rightBy_23 rfl (lv_at hl 3 rfl) ?_
        refine lv_aload_n hx hb dX4_rightBy_24 rfl (lv_at hl 1 rfl) ?_
        refine lv_aload_n hx hb dX4_rightBy_25 rfl (lv_at hl 1 rfl) ?_
        refine va_get (D := (dC, dI)) (ci := 4) (v := .ref a_t_now) (C := RX4) (T := TX4) (N := 21) hx hb hU inlX4 hown hE.1 hP 0 rfl rfl 4 (by decide) (hU _ u_4_15) (fun _ h9 => h9) rfl dX4_rightBy_26 ?_
        refine lv_aload_n hx hb dX4_rightBy_29 rfl (lv_at hl 1 rfl) ?_
        refine va_get (D := (dC, dI)) (ci := 4) (v := .ref a_t_now) (C := RX4) (T := TX4) (N := 21) hx hb hU inlX4 hown hE.1 hP 0 rfl rfl 4 (by decide) (hU _ u_4_15) (fun _ h9 => h9) rfl dX4_rightBy_30 ?_
        refine lv_iload hx hb dX4_rightBy_33 (lv_at hl 0 rfl) ?_
        obtain ⟨g35, hM⟩ := rd_e hM
        refine va_iald hx hb hE.1 hP 1 0 rfl rfl g35 dX4_rightBy_35 ?_
        refine lv_aload_n hx hb dX4_rightBy_36 rfl (lv_at hl 1 rfl) ?_
        refine va_get (D := (dC, dI)) (ci := 4) (v := .ref a_t_now) (C := RX4) (T := TX4) (N := 21) hx hb hU inlX4 hown hE.1 hP 0 rfl rfl 4 (by decide) (hU _ u_4_15) (fun _ h9 => h9) rfl dX4_rightBy_37 ?_
        refine lv_iload hx hb dX4_rightBy_40 (lv_at hl 0 rfl) ?_
        refine lv_iconst (v := (1 : Int32)) hx hb dX4_rightBy_42 (by decide) ?_
        refine lv_iadd hx hb dX4_rightBy_43 ?_
        obtain ⟨g44, hM⟩ := rd_e hM
        refine va_iald hx hb hE.1 hP 1 0 rfl rfl g44 dX4_rightBy_44 ?_
        refine lv_aload_n hx hb dX4_rightBy_45 rfl (lv_at hl 1 rfl) ?_
        refine va_get (D := (dC, dI)) (ci := 4) (v := .ref a_t_now) (C := RX4) (T := TX4) (N := 21) hx hb hU inlX4 hown hE.1 hP 0 rfl rfl 4 (by decide) (hU _ u_4_15) (fun _ h9 => h9) rfl dX4_rightBy_46 ?_
        refine lv_iload hx hb dX4_rightBy_49 (lv_at hl 0 rfl) ?_
        refine lv_iconst (v := (2 : Int32)) hx hb dX4_rightBy_51 (by decide) ?_
        refine lv_iadd hx hb dX4_rightBy_52 ?_
        obtain ⟨g53, hM⟩ := rd_e hM
        refine va_iald hx hb hE.1 hP 1 0 rfl rfl g53 dX4_rightBy_53 ?_
        refine lv_iload_n hx hb dX4_rightBy_54 rfl (lv_at hl 2 rfl) ?_
        obtain ⟨x55, h55, hM⟩ := bind_e hM
        refine rdV (As := [.ref a_t_now, .int (s_t_now ((42 : Int32) + ((3 : Int32) * v3_4)).toNatClampNeg), .int (s_t_now (((42 : Int32) + ((3 : Int32) * v3_4)) + (1 : Int32)).toNatClampNeg), .int (s_t_now (((42 : Int32) + ((3 : Int32) * v3_4)) + (2 : Int32)).toNatClampNeg), .int v1]) (rest := [.int v2_4]) (st2 := [.int x55, .int v2_4]) ⟨hx, hb, hml, hown, hU⟩ hE (okX4_stateBy a_t a_t_text a_t_paper a_t_now a_t_trial a_t_diary a_t_kept a_t_isKept a_t_seenAt a_t_worth a_t_readPaper a_t_read a_t_now s_t s_t_now s_t_paper (s_t_now ((42 : Int32) + ((3 : Int32) * v3_4)).toNatClampNeg) (s_t_now (((42 : Int32) + ((3 : Int32) * v3_4)) + (1 : Int32)).toNatClampNeg) (s_t_now (((42 : Int32) + ((3 : Int32) * v3_4)) + (2 : Int32)).toNatClampNeg) v1 x55 h55) lk_X4_134 (hP.sub [0, 1, 2] rfl) rfl rfl rfl hl.1 rfl (Nat.le_of_ble_eq_true rfl) ⟨Nat.le_of_ble_eq_true rfl, Nat.le_of_ble_eq_true rfl⟩ dX4_rightBy_55 ⟨Nat.le_refl _, Nat.le_refl _⟩ rfl ?_
        refine lv_iconst (v := (2 : Int32)) hx hb dX4_rightBy_58 (by decide) ?_
        refine lv_icmp_ne (tgt := 66) hx hb dX4_rightBy_59 (by decide) (fun c59 => ?_) (fun c59 => ?_)
        · have hM := ite_f c59 hM
          refine lv_iconst (v := (0 : Int32)) hx hb dX4_rightBy_66 (by decide) ?_
          refine lv_iadd hx hb dX4_rightBy_67 ?_
          refine lv_istore_n (lv' := [(2, .int (v2_4 + (0 : Int32))), (4, .int ((42 : Int32) + ((3 : Int32) * v3_4))), (0, .ref a_t), (1, .int v1), (3, .int v3_4)]) hx hb dX4_rightBy_68 rfl hl (by decide) rfl (fun ls hl => ?_)
          refine lv_iinc (v := (v3_4 + (1 : Int32))) (lv' := [(3, .int (v3_4 + (1 : Int32))), (2, .int (v2_4 + (0 : Int32))), (4, .int ((42 : Int32) + ((3 : Int32) * v3_4))), (0, .ref a_t), (1, .int v1)]) hx hb dX4_rightBy_69 hl (k := 4) rfl rfl (by decide) rfl (fun ls hl => ?_)
          refine lv_goto (tgt := 4) hx hb dX4_rightBy_72 (by decide) ?_
          exact ih_4 (v2_4 + (0 : Int32)) (v3_4 + (1 : Int32)) hM ls (lv_sub hl [3, 4, 1, 0] rfl)
        · have hM := ite_t c59 hM
          refine lv_iconst (v := (1 : Int32)) hx hb dX4_rightBy_62 (by decide) ?_
          refine lv_goto (tgt := 67) hx hb dX4_rightBy_63 (by decide) ?_
          refine lv_iadd hx hb dX4_rightBy_67 ?_
          refine lv_istore_n (lv' := [(2, .int (v2_4 + (1 : Int32))), (4, .int ((42 : Int32) + ((3 : Int32) * v3_4))), (0, .ref a_t), (1, .int v1), (3, .int v3_4)]) hx hb dX4_rightBy_68 rfl hl (by decide) rfl (fun ls hl => ?_)
          refine lv_iinc (v := (v3_4 + (1 : Int32))) (lv' := [(3, .int (v3_4 + (1 : Int32))), (2, .int (v2_4 + (1 : Int32))), (4, .int ((42 : Int32) + ((3 : Int32) * v3_4))), (0, .ref a_t), (1, .int v1)]) hx hb dX4_rightBy_69 hl (k := 4) rfl rfl (by decide) rfl (fun ls hl => ?_)
          refine lv_goto (tgt := 4) hx hb dX4_rightBy_72 (by decide) ?_
          exact ih_4 (v2_4 + (1 : Int32)) (v3_4 + (1 : Int32)) hM ls (lv_sub hl [3, 4, 1, 0] rfl)
  exact w_4 FU (0 : Int32) (0 : Int32) hM ls (lv_sub hl [2, 3, 1, 0] rfl)
noncomputable def mX4_route (s_t : Int32 × Int32 × Int32 × Int32 × Int32 × Int32 × Int32 × Int32 × Int32 × Int64) (s_t_now : Nat → Int32) (s_t_paper : Nat → Int32) (v1 : Int32) (v2 : Int32) : Option (Int32) := (mX4_isRoute s_t_now v1).bind (fun x2 => (if x2 = true then (if v2 = (3 : Int32) then (mX4_routeState s_t_now s_t_paper v1).bind (fun x21 => some (x21)) else (if v2 = (4 : Int32) then (mX4_makerOf s_t s_t_paper s_t_now v1).bind (fun x32 => some (x32)) else (mX4_in (v2.toInt64) (0 : Int64) (2 : Int64)).bind (fun x42 => (if x42 = true then rd s_t_now 66 (((42 : Int32) + ((3 : Int32) * v1)) + v2) (fun x60 => some (x60)) else some ((-2 : Int32)))))) else some ((-1 : Int32))))
set_option maxHeartbeats 4000000 in
set_option maxRecDepth 100000 in
theorem okX4_route {l : Launch} {dC : Nat → ClassId} {dI : Nat → Nat → Nat} {cI cC cZ : ClassId} (a_t a_t_text a_t_paper a_t_now a_t_trial a_t_diary a_t_kept a_t_isKept a_t_seenAt a_t_worth a_t_readPaper a_t_read : Nat) (s_t : Int32 × Int32 × Int32 × Int32 × Int32 × Int32 × Int32 × Int32 × Int32 × Int64) (s_t_now : Nat → Int32) (s_t_paper : Nat → Int32) (v1 : Int32) (v2 : Int32) (res : Int32) (hM : mX4_route s_t s_t_now s_t_paper v1 v2 = some res) : Rd l yX4_route cX4_route 3 (some .int) 7 168 (dC, dI) cI cC cZ [(a_t, .inr (4, [.ref a_t_text, .int s_t.1, .int s_t.2.1, .ref a_t_paper, .ref a_t_now, .ref a_t_trial, .ref a_t_diary, .int s_t.2.2.1, .int s_t.2.2.2.1, .ref a_t_kept, .ref a_t_isKept, .ref a_t_seenAt, .int s_t.2.2.2.2.1, .long s_t.2.2.2.2.2.2.2.2.2, .ref a_t_worth, .int s_t.2.2.2.2.2.1, .int s_t.2.2.2.2.2.2.1, .ref a_t_readPaper, .ref a_t_read, .int s_t.2.2.2.2.2.2.2.1, .int s_t.2.2.2.2.2.2.2.2.1])), (a_t_now, .inl (cI, 66, .inl s_t_now)), (a_t_paper, .inl (cI, 24, .inl s_t_paper))] [.ref a_t, .int v1, .int v2] (some (.int res)) := by
  refine Rd.ofI (by decide) (Nat.le_of_ble_eq_true rfl) [(0, .ref a_t), (1, .int v1), (2, .int v2)] rfl ?_
  intro p e s m args below meth c ls Q hx hb hml hown hU hE hP rt hl
  have hown : s.vm.findClass RX4 = some m.cls := hown
  unfold mX4_route at hM
  refine lv_aload_n hx hb dX4_route_0 rfl (lv_at hl 0 rfl) ?_
  refine lv_iload_n hx hb dX4_route_1 rfl (lv_at hl 1 rfl) ?_
  obtain ⟨x2, h2, hM⟩ := bind_e hM
  refine rdV (As := [.int v1]) (rest := []) (st2 := [.int (b2i x2)]) ⟨hx, hb, hml, hown, hU⟩ hE (okX4_isRoute a_t a_t_text a_t_paper a_t_now a_t_trial a_t_diary a_t_kept a_t_isKept a_t_seenAt a_t_worth a_t_readPaper a_t_read s_t s_t_now v1 x2 h2) lk_X4_174 (hP.sub [0, 1] rfl) rfl rfl rfl hl.1 rfl (Nat.le_of_ble_eq_true rfl) ⟨Nat.le_of_ble_eq_true rfl, Nat.le_of_ble_eq_true rfl⟩ dX4_route_2 ⟨Nat.le_refl _, Nat.le_refl _⟩ rfl ?_
  refine lv_if_ne (tgt := 10) hx hb dX4_route_5 (by decide) (fun c5 => ?_) (fun c5 => ?_)
  · have hM := ite_t (b2i_ne0 c5) hM
    refine lv_iload_n hx hb dX4_route_10 rfl (lv_at hl 2 rfl) ?_
    refine lv_iconst (v := (3 : Int32)) hx hb dX4_route_11 (by decide) ?_
    refine lv_icmp_ne (tgt := 25) hx hb dX4_route_12 (by decide) (fun c12 => ?_) (fun c12 => ?_)
    · have hM := ite_f c12 hM
      refine lv_iload_n hx hb dX4_route_25 rfl (lv_at hl 2 rfl) ?_
      refine lv_iconst (v := (4 : Int32)) hx hb dX4_route_26 (by decide) ?_
      refine lv_icmp_ne (tgt := 36) hx hb dX4_route_27 (by decide) (fun c27 => ?_) (fun c27 => ?_)
      · have hM := ite_f c27 hM
        refine lv_iload_n hx hb dX4_route_36 rfl (lv_at hl 2 rfl) ?_
        refine lv_i2l (v := (v2.toInt64)) hx hb dX4_route_37 rfl ?_
        refine lv_lconst (v := (0 : Int64)) hx hb dX4_route_38 (by decide) ?_
        refine lv_ldc2 hx hb hown (hU _ u_17_8) dX4_route_39 ?_
        obtain ⟨x42, h42, hM⟩ := bind_e hM
        refine rdS (As := [.long (v2.toInt64), .long (0 : Int64), .long (2 : Int64)]) (rest := []) (st2 := [.int (b2i x42)]) ⟨hx, hb, hml, hown, hU⟩ hE (okX4_in (v2.toInt64) (0 : Int64) (2 : Int64) x42 h42) lk_X4_50 (hP.sub [] rfl) rfl hl.1 rfl (Nat.le_of_ble_eq_true rfl) ⟨Nat.le_of_ble_eq_true rfl, Nat.le_of_ble_eq_true rfl⟩ dX4_route_42 ⟨Nat.le_refl _, Nat.le_refl _⟩ rfl ?_
        refine lv_if_eq (tgt := 64) hx hb dX4_route_45 (by decide) (fun c45 => ?_) (fun c45 => ?_)
        · have hM := ite_f (b2i_eq0 c45) hM
          refine lv_bipush (v := (-2 : Int32)) hx hb dX4_route_64 (by decide) ?_
          cases hM
          exact rt _ _ _ dX4_route_66 rfl
        · have hM := ite_t (b2i_ne0 c45) hM
          refine lv_aload_n hx hb dX4_route_48 rfl (lv_at hl 0 rfl) ?_
          refine va_get (D := (dC, dI)) (ci := 4) (v := .ref a_t_now) (C := RX4) (T := TX4) (N := 21) hx hb hU inlX4 hown hE.1 hP 0 rfl rfl 4 (by decide) (hU _ u_4_15) (fun _ h9 => h9) rfl dX4_route_49 ?_
          refine lv_bipush (v := (42 : Int32)) hx hb dX4_route_52 (by decide) ?_
          refine lv_iconst (v := (3 : Int32)) hx hb dX4_route_54 (by decide) ?_
          refine lv_iload_n hx hb dX4_route_55 rfl (lv_at hl 1 rfl) ?_
          refine lv_imul hx hb dX4_route_56 ?_
          refine lv_iadd hx hb dX4_route_57 ?_
          refine lv_iload_n hx hb dX4_route_58 rfl (lv_at hl 2 rfl) ?_
          refine lv_iadd hx hb dX4_route_59 ?_
          obtain ⟨g60, hM⟩ := rd_e hM
          refine va_iald hx hb hE.1 hP 1 0 rfl rfl g60 dX4_route_60 ?_
          refine lv_goto (tgt := 66) hx hb dX4_route_61 (by decide) ?_
          cases hM
          exact rt _ _ _ dX4_route_66 rfl
      · have hM := ite_t c27 hM
        refine lv_aload_n hx hb dX4_route_30 rfl (lv_at hl 0 rfl) ?_
        refine lv_iload_n hx hb dX4_route_31 rfl (lv_at hl 1 rfl) ?_
        obtain ⟨x32, h32, hM⟩ := bind_e hM
        refine rdV (As := [.int v1]) (rest := []) (st2 := [.int x32]) ⟨hx, hb, hml, hown, hU⟩ hE (okX4_makerOf a_t a_t_text a_t_paper a_t_now a_t_trial a_t_diary a_t_kept a_t_isKept a_t_seenAt a_t_worth a_t_readPaper a_t_read s_t s_t_paper s_t_now v1 x32 h32) lk_X4_177 (hP.sub [0, 2, 1] rfl) rfl rfl rfl hl.1 rfl (Nat.le_of_ble_eq_true rfl) ⟨Nat.le_of_ble_eq_true rfl, Nat.le_of_ble_eq_true rfl⟩ dX4_route_32 ⟨Nat.le_refl _, Nat.le_refl _⟩ rfl ?_
        cases hM
        exact rt _ _ _ dX4_route_35 rfl
    · have hM := ite_t c12 hM
      refine lv_aload_n hx hb dX4_route_15 rfl (lv_at hl 0 rfl) ?_
      refine lv_aload_n hx hb dX4_route_16 rfl (lv_at hl 0 rfl) ?_
      refine va_get (D := (dC, dI)) (ci := 4) (v := .ref a_t_now) (C := RX4) (T := TX4) (N := 21) hx hb hU inlX4 hown hE.1 hP 0 rfl rfl 4 (by decide) (hU _ u_4_15) (fun _ h9 => h9) rfl dX4_route_17 ?_
      refine lv_iload_n hx hb dX4_route_20 rfl (lv_at hl 1 rfl) ?_
      obtain ⟨x21, h21, hM⟩ := bind_e hM
      refine rdV (As := [.ref a_t_now, .int v1]) (rest := []) (st2 := [.int x21]) ⟨hx, hb, hml, hown, hU⟩ hE (okX4_routeState a_t a_t_text a_t_paper a_t_now a_t_trial a_t_diary a_t_kept a_t_isKept a_t_seenAt a_t_worth a_t_readPaper a_t_read a_t_now s_t s_t_now s_t_paper v1 x21 h21) lk_X4_142 (hP.sub [0, 1, 2] rfl) rfl rfl rfl hl.1 rfl (Nat.le_of_ble_eq_true rfl) ⟨Nat.le_of_ble_eq_true rfl, Nat.le_of_ble_eq_true rfl⟩ dX4_route_21 ⟨Nat.le_refl _, Nat.le_refl _⟩ rfl ?_
      cases hM
      exact rt _ _ _ dX4_route_24 rfl
  · have hM := ite_f (b2i_eq0 c5) hM
    refine lv_iconst (v := (-1 : Int32)) hx hb dX4_route_8 (by decide) ?_
    cases hM
    exact rt _ _ _ dX4_route_9 rfl
