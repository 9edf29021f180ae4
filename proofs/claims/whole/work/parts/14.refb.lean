noncomputable def mX4_note_b2 (s_t : Int32 × Int32 × Int32 × Int32 × Int32 × Int32 × Int32 × Int32 × Int32 × Int64) (s_t_now : Nat → Int32) : Nat → Int32 → (Nat → Int32) → Option ((Int32 × Int32 × Int32 × Int32 × Int32 × Int32 × Int32 × Int32 × Int32 × Int64) × (Nat → Int32))
  | 0, _, _ => none
  | n + 1, v1, s_t_diary => (if (66 : Int32) ≤ v1 then bnd ((s_t.2.2.2.1 + (1 : Int32)) - (s_t.2.2.2.1 + (1 : Int32)) / (14 : Int32) * (14 : Int32)) (fun z44 => (if (14 : Int32) ≤ s_t.2.2.1 then some ((s_t.1, s_t.2.1, (14 : Int32), z44, s_t.2.2.2.2.1, s_t.2.2.2.2.2.1, s_t.2.2.2.2.2.2.1, s_t.2.2.2.2.2.2.2.1, s_t.2.2.2.2.2.2.2.2.1, s_t.2.2.2.2.2.2.2.2.2), s_t_diary) else some ((s_t.1, s_t.2.1, (s_t.2.2.1 + (1 : Int32)), z44, s_t.2.2.2.2.1, s_t.2.2.2.2.2.1, s_t.2.2.2.2.2.2.1, s_t.2.2.2.2.2.2.2.1, s_t.2.2.2.2.2.2.2.2.1, s_t.2.2.2.2.2.2.2.2.2), s_t_diary))) else rd s_t_now 66 v1 (fun x26 => wr s_t_diary 924 (((66 : Int32) * s_t.2.2.2.1) + v1) x26 (fun x27 => mX4_note_b2 s_t s_t_now n (v1 + (1 : Int32)) x27)))
noncomputable def mX4_note (s_t : Int32 × Int32 × Int32 × Int32 × Int32 × Int32 × Int32 × Int32 × Int32 × Int64) (s_t_now : Nat → Int32) (s_t_diary : Nat → Int32) : Option ((Int32 × Int32 × Int32 × Int32 × Int32 × Int32 × Int32 × Int32 × Int32 × Int64) × (Nat → Int32)) := mX4_note_b2 s_t s_t_now FU (0 : Int32) s_t_diary
set_option maxHeartbeats 4000000 in
set_option maxRecDepth 100000 in
theorem okX4_note {l : Launch} {dC : Nat → ClassId} {dI : Nat → Nat → Nat} {cI cC cZ : ClassId} (a_t a_t_text a_t_paper a_t_now a_t_trial a_t_diary a_t_kept a_t_isKept a_t_seenAt a_t_worth a_t_readPaper a_t_read : Nat) (s_t : Int32 × Int32 × Int32 × Int32 × Int32 × Int32 × Int32 × Int32 × Int32 × Int64) (s_t_now : Nat → Int32) (s_t_diary : Nat → Int32) (res : (Int32 × Int32 × Int32 × Int32 × Int32 × Int32 × Int32 × Int32 × Int32 × Int64) × (Nat → Int32)) (hM : mX4_note s_t s_t_now s_t_diary = some res) : Mu l yX4_note cX4_note 2 none 0 0 (dC, dI) cI cC cZ [(a_t, .inr (4, [.ref a_t_text, .int s_t.1, .int s_t.2.1, .ref a_t_paper, .ref a_t_now, .ref a_t_trial, .ref a_t_diary, .int s_t.2.2.1, .int s_t.2.2.2.1, .ref a_t_kept, .ref a_t_isKept, .ref a_t_seenAt, .int s_t.2.2.2.2.1, .long s_t.2.2.2.2.2.2.2.2.2, .ref a_t_worth, .int s_t.2.2.2.2.2.1, .int s_t.2.2.2.2.2.2.1, .ref a_t_readPaper, .ref a_t_read, .int s_t.2.2.2.2.2.2.2.1, .int s_t.2.2.2.2.2.2.2.2.1])), (a_t_now, .inl (cI, 66, .inl s_t_now)), (a_t_diary, .inl (cI, 924, .inl s_t_diary))] [(a_t, .inr (4, [.ref a_t_text, .int res.1.1, .int res.1.2.1, .ref a_t_paper, .ref a_t_now, .ref a_t_trial, .ref a_t_diary, .int res.1.2.2.1, .int res.1.2.2.2.1, .ref a_t_kept, .ref a_t_isKept, .ref a_t_seenAt, .int res.1.2.2.2.2.1, .long res.1.2.2.2.2.2.2.2.2.2, .ref a_t_worth, .int res.1.2.2.2.2.2.1, .int res.1.2.2.2.2.2.2.1, .ref a_t_readPaper, .ref a_t_read, .int res.1.2.2.2.2.2.2.2.1, .int res.1.2.2.2.2.2.2.2.2.1])), (a_t_now, .inl (cI, 66, .inl s_t_now)), (a_t_diary, .inl (cI, 924, .inl res.2))] [.ref a_t] none := by
  refine Mu.ofV (by decide) (Nat.le_of_ble_eq_true rfl) [(0, .ref a_t)] rfl ?_
  intro p e s m args below meth c ls Q A hx hb hml hown hU hE hP hD hS hA rt hl
  have hown : s.vm.findClass RX4 = some m.cls := hown
  unfold mX4_note at hM
  refine lv_iconst (v := (0 : Int32)) hx hb dX4_note_0 (by decide) ?_
  refine lv_istore_n (lv' := [(1, .int (0 : Int32)), (0, .ref a_t)]) hx hb dX4_note_1 rfl hl (by decide) rfl (fun ls hl => ?_)
  have w_2 : ∀ (n : Nat) (v1_2 : Int32) (s_t_diary_2 : Nat → Int32), mX4_note_b2 s_t s_t_now n v1_2 s_t_diary_2 = some res → ∀ (ls : Array Slot) (H : Heap) (locs : List Loc), va_P (dC, dI) vwCl [(a_t, .inr (4, [.ref a_t_text, .int s_t.1, .int s_t.2.1, .ref a_t_paper, .ref a_t_now, .ref a_t_trial, .ref a_t_diary, .int s_t.2.2.1, .int s_t.2.2.2.1, .ref a_t_kept, .ref a_t_isKept, .ref a_t_seenAt, .int s_t.2.2.2.2.1, .long s_t.2.2.2.2.2.2.2.2.2, .ref a_t_worth, .int s_t.2.2.2.2.2.1, .int s_t.2.2.2.2.2.2.1, .ref a_t_readPaper, .ref a_t_read, .int s_t.2.2.2.2.2.2.2.1, .int s_t.2.2.2.2.2.2.2.2.1])), (a_t_now, .inl (cI, 66, .inl s_t_now)), (a_t_diary, .inl (cI, 924, .inl s_t_diary_2))] H → va_D A [(a_t, .inr (4, [.ref a_t_text, .int s_t.1, .int s_t.2.1, .ref a_t_paper, .ref a_t_now, .ref a_t_trial, .ref a_t_diary, .int s_t.2.2.1, .int s_t.2.2.2.1, .ref a_t_kept, .ref a_t_isKept, .ref a_t_seenAt, .int s_t.2.2.2.2.1, .long s_t.2.2.2.2.2.2.2.2.2, .ref a_t_worth, .int s_t.2.2.2.2.2.1, .int s_t.2.2.2.2.2.2.1, .ref a_t_readPaper, .ref a_t_read, .int s_t.2.2.2.2.2.2.2.1, .int s_t.2.2.2.2.2.2.2.2.1])), (a_t_now, .inl (cI, 66, .inl s_t_now)), (a_t_diary, .inl (cI, 924, .inl s_t_diary_2))] → va_S A s.heap H locs → lv_has ls 2 [(0, .ref a_t), (1, .int v1_2)] → W p l e (RM 0 0) s m args below meth c H locs 0 0 Q (F0 m 2 ls []) := by
    intro n
    induction n with
    | zero =>
      intro v1_2 s_t_diary_2 hM
      rw [mX4_note_b2] at hM
      cases hM
    | succ n_2 ih_2 =>
      intro v1_2 s_t_diary_2 hM ls H locs hP hD hS hl
      rw [mX4_note_b2] at hM
      refine lv_iload_n hx hb dX4_note_2 rfl (lv_at hl 1 rfl) ?_
      refine lv_bipush (v := (66 : Int32)) hx hb dX4_note_3 (by decide) ?_
      refine lv_icmp_ge (tgt := 34) hx hb dX4_note_5 (by decide) (fun c5 => ?_) (fun c5 => ?_)
      · have hM := ite_t c5 hM
        refine lv_aload_n hx hb dX4_note_34 rfl (lv_at hl 0 rfl) ?_
        refine lv_aload_n hx hb dX4_note_35 rfl (lv_at hl 0 rfl) ?_
        refine va_get (D := (dC, dI)) (ci := 4) (v := .int s_t.2.2.2.1) (C := RX4) (T := TX4) (N := 21) hx hb hU inlX4 hown hE.1 hP 0 rfl rfl 8 (by decide) (hU _ u_19_4) (fun _ h9 => h9) rfl dX4_note_36 ?_
        refine lv_iconst (v := (1 : Int32)) hx hb dX4_note_39 (by decide) ?_
        refine lv_iadd hx hb dX4_note_40 ?_
        refine lv_bipush (v := (14 : Int32)) hx hb dX4_note_41 (by decide) ?_
        refine lv_irem hx hb dX4_note_43 (by decide) ?_
        obtain ⟨z44, ez44, hM⟩ := bnd_e hM
        rw [← ez44]
        refine va_put (D := (dC, dI)) (ci := 4) (v := .int z44) (ty := .int) (C := RX4) (T := TX4) (N := 21) hx hb hU inlX4 tyX4 tyX4_ok nmX4 hown hE.1 hP hD hS 0 rfl rfl 8 (by decide) (hU _ u_19_4) (fun _ h9 => h9) rfl (tyX4_ok 8 (by decide)) rfl rfl (Nat.le_of_ble_eq_true rfl) dX4_note_44 (fun H locs hP hD hS => ?_)
        have hP : va_P (dC, dI) vwCl [(a_t, .inr (4, [.ref a_t_text, .int s_t.1, .int s_t.2.1, .ref a_t_paper, .ref a_t_now, .ref a_t_trial, .ref a_t_diary, .int s_t.2.2.1, .int z44, .ref a_t_kept, .ref a_t_isKept, .ref a_t_seenAt, .int s_t.2.2.2.2.1, .long s_t.2.2.2.2.2.2.2.2.2, .ref a_t_worth, .int s_t.2.2.2.2.2.1, .int s_t.2.2.2.2.2.2.1, .ref a_t_readPaper, .ref a_t_read, .int s_t.2.2.2.2.2.2.2.1, .int s_t.2.2.2.2.2.2.2.2.1])), (a_t_now, .inl (cI, 66, .inl s_t_now)), (a_t_diary, .inl (cI, 924, .inl s_t_diary_2))] H := hP
        have hD : va_D A [(a_t, .inr (4, [.ref a_t_text, .int s_t.1, .int s_t.2.1, .ref a_t_paper, .ref a_t_now, .ref a_t_trial, .ref a_t_diary, .int s_t.2.2.1, .int z44, .ref a_t_kept, .ref a_t_isKept, .ref a_t_seenAt, .int s_t.2.2.2.2.1, .long s_t.2.2.2.2.2.2.2.2.2, .ref a_t_worth, .int s_t.2.2.2.2.2.1, .int s_t.2.2.2.2.2.2.1, .ref a_t_readPaper, .ref a_t_read, .int s_t.2.2.2.2.2.2.2.1, .int s_t.2.2.2.2.2.2.2.2.1])), (a_t_now, .inl (cI, 66, .inl s_t_now)), (a_t_diary, .inl (cI, 924, .inl s_t_diary_2))] := hD
        refine lv_aload_n hx hb dX4_note_47 rfl (lv_at hl 0 rfl) ?_
        refine lv_aload_n hx hb dX4_note_48 rfl (lv_at hl 0 rfl) ?_
        refine va_get (D := (dC, dI)) (ci := 4) (v := .int s_t.2.2.1) (C := RX4) (T := TX4) (N := 21) hx hb hU inlX4 hown hE.1 hP 0 rfl rfl 7 (by decide) (hU _ u_11_10) (fun _ h9 => h9) rfl dX4_note_49 ?_
        refine lv_bipush (v := (14 : Int32)) hx hb dX4_note_52 (by decide) ?_
        refine lv_icmp_ge (tgt := 66) hx hb dX4_note_54 (by decide) (fun c54 => ?_) (fun c54 => ?_)
        · have hM := ite_t c54 hM
          refine lv_bipush (v := (14 : Int32)) hx hb dX4_note_66 (by decide) ?_
          refine va_put (D := (dC, dI)) (ci := 4) (v := .int (14 : Int32)) (ty := .int) (C := RX4) (T := TX4) (N := 21) hx hb hU inlX4 tyX4 tyX4_ok nmX4 hown hE.1 hP hD hS 0 rfl rfl 7 (by decide) (hU _ u_11_10) (fun _ h9 => h9) rfl (tyX4_ok 7 (by decide)) rfl rfl (Nat.le_of_ble_eq_true rfl) dX4_note_68 (fun H locs hP hD hS => ?_)
          have hP : va_P (dC, dI) vwCl [(a_t, .inr (4, [.ref a_t_text, .int s_t.1, .int s_t.2.1, .ref a_t_paper, .ref a_t_now, .ref a_t_trial, .ref a_t_diary, .int (14 : Int32), .int z44, .ref a_t_kept, .ref a_t_isKept, .ref a_t_seenAt, .int s_t.2.2.2.2.1, .long s_t.2.2.2.2.2.2.2.2.2, .ref a_t_worth, .int s_t.2.2.2.2.2.1, .int s_t.2.2.2.2.2.2.1, .ref a_t_readPaper, .ref a_t_read, .int s_t.2.2.2.2.2.2.2.1, .int s_t.2.2.2.2.2.2.2.2.1])), (a_t_now, .inl (cI, 66, .inl s_t_now)), (a_t_diary, .inl (cI, 924, .inl s_t_diary_2))] H := hP
          have hD : va_D A [(a_t, .inr (4, [.ref a_t_text, .int s_t.1, .int s_t.2.1, .ref a_t_paper, .ref a_t_now, .ref a_t_trial, .ref a_t_diary, .int (14 : Int32), .int z44, .ref a_t_kept, .ref a_t_isKept, .ref a_t_seenAt, .int s_t.2.2.2.2.1, .long s_t.2.2.2.2.2.2.2.2.2, .ref a_t_worth, .int s_t.2.2.2.2.2.1, .int s_t.2.2.2.2.2.2.1, .ref a_t_readPaper, .ref a_t_read, .int s_t.2.2.2.2.2.2.2.1, .int s_t.2.2.2.2.2.2.2.2.1])), (a_t_now, .inl (cI, 66, .inl s_t_now)), (a_t_diary, .inl (cI, 924, .inl s_t_diary_2))] := hD
          cases hM
          exact rt _ _ _ _ hP hS dX4_note_71 rfl
        · have hM := ite_f c54 hM
          refine lv_aload_n hx hb dX4_note_57 rfl (lv_at hl 0 rfl) ?_
          refine va_get (D := (dC, dI)) (ci := 4) (v := .int s_t.2.2.1) (C := RX4) (T := TX4) (N := 21) hx hb hU inlX4 hown hE.1 hP 0 rfl rfl 7 (by decide) (hU _ u_11_10) (fun _ h9 => h9) rfl dX4_note_58 ?_
          refine lv_iconst (v := (1 : Int32)) hx hb dX4_note_61 (by decide) ?_
          refine lv_iadd hx hb dX4_note_62 ?_
          refine lv_goto (tgt := 68) hx hb dX4_note_63 (by decide) ?_
          refine va_put (D := (dC, dI)) (ci := 4) (v := .int (s_t.2.2.1 + (1 : Int32))) (ty := .int) (C := RX4) (T := TX4) (N := 21) hx hb hU inlX4 tyX4 tyX4_ok nmX4 hown hE.1 hP hD hS 0 rfl rfl 7 (by decide) (hU _ u_11_10) (fun _ h9 => h9) rfl (tyX4_ok 7 (by decide)) rfl rfl (Nat.le_of_ble_eq_true rfl) dX4_note_68 (fun H locs hP hD hS => ?_)
          have hP : va_P (dC, dI) vwCl [(a_t, .inr (4, [.ref a_t_text, .int s_t.1, .int s_t.2.1, .ref a_t_paper, .ref a_t_now, .ref a_t_trial, .ref a_t_diary, .int (s_t.2.2.1 + (1 : Int32)), .int z44, .ref a_t_kept, .ref a_t_isKept, .ref a_t_seenAt, .int s_t.2.2.2.2.1, .long s_t.2.2.2.2.2.2.2.2.2, .ref a_t_worth, .int s_t.2.2.2.2.2.1, .int s_t.2.2.2.2.2.2.1, .ref a_t_readPaper, .ref a_t_read, .int s_t.2.2.2.2.2.2.2.1, .int s_t.2.2.2.2.2.2.2.2.1])), (a_t_now, .inl (cI, 66, .inl s_t_now)), (a_t_diary, .inl (cI, 924, .inl s_t_diary_2))] H := hP
          have hD : va_D A [(a_t, .inr (4, [.ref a_t_text, .int s_t.1, .int s_t.2.1, .ref a_t_paper, .ref a_t_now, .ref a_t_trial, .ref a_t_diary, .int (s_t.2.2.1 + (1 : Int32)), .int z44, .ref a_t_kept, .ref a_t_isKept, .ref a_t_seenAt, .int s_t.2.2.2.2.1, .long s_t.2.2.2.2.2.2.2.2.2, .ref a_t_worth, .int s_t.2.2.2.2.2.1, .int s_t.2.2.2.2.2.2.1, .ref a_t_readPaper, .ref a_t_read, .int s_t.2.2.2.2.2.2.2.1, .int s_t.2.2.2.2.2.2.2.2.1])), (a_t_now, .inl (cI, 66, .inl s_t_now)), (a_t_diary, .inl (cI, 924, .inl s_t_diary_2))] := hD
          cases hM
          exact rt _ _ _ _ hP hS dX4_note_71 rfl
      · have hM := ite_f c5 hM
        refine lv_aload_n hx hb dX4_note_8 rfl (lv_at hl 0 rfl) ?_
        refine va_get (D := (dC, dI)) (ci := 4) (v := .ref a_t_diary) (C := RX4) (T := TX4) (N := 21) hx hb hU inlX4 hown hE.1 hP 0 rfl rfl 6 (by decide) (hU _ u_4_17) (fun _ h9 => h9) rfl dX4_note_9 ?_
        refine lv_bipush (v := (66 : Int32)) hx hb dX4_note_12 (by decide) ?_
        refine lv_aload_n hx hb dX4_note_14 rfl (lv_at hl 0 rfl) ?_
        refine va_get (D := (dC, dI)) (ci := 4) (v := .int s_t.2.2.2.1) (C := RX4) (T := TX4) (N := 21) hx hb hU inlX4 hown hE.1 hP 0 rfl rfl 8 (by decide) (hU _ u_19_4) (fun _ h9 => h9) rfl dX4_note_15 ?_
        refine lv_imul hx hb dX4_note_18 ?_
        refine lv_iload_n hx hb dX4_note_19 rfl (lv_at hl 1 rfl) ?_
        refine lv_iadd hx hb dX4_note_20 ?_
        refine lv_aload_n hx hb dX4_note_21 rfl (lv_at hl 0 rfl) ?_
        refine va_get (D := (dC, dI)) (ci := 4) (v := .ref a_t_now) (C := RX4) (T := TX4) (N := 21) hx hb hU inlX4 hown hE.1 hP 0 rfl rfl 4 (by decide) (hU _ u_4_15) (fun _ h9 => h9) rfl dX4_note_22 ?_
        refine lv_iload_n hx hb dX4_note_25 rfl (lv_at hl 1 rfl) ?_
        obtain ⟨g26, hM⟩ := rd_e hM
        refine va_iald hx hb hE.1 hP 1 0 rfl rfl g26 dX4_note_26 ?_
        obtain ⟨g27, hM⟩ := wr_e hM
        refine va_iast hx hb hE.1 hP hD hS 2 0 rfl rfl g27 dX4_note_27 (fun H locs hP hD hS => ?_)
        have hP : va_P (dC, dI) vwCl [(a_t, .inr (4, [.ref a_t_text, .int s_t.1, .int s_t.2.1, .ref a_t_paper, .ref a_t_now, .ref a_t_trial, .ref a_t_diary, .int s_t.2.2.1, .int s_t.2.2.2.1, .ref a_t_kept, .ref a_t_isKept, .ref a_t_seenAt, .int s_t.2.2.2.2.1, .long s_t.2.2.2.2.2.2.2.2.2, .ref a_t_worth, .int s_t.2.2.2.2.2.1, .int s_t.2.2.2.2.2.2.1, .ref a_t_readPaper, .ref a_t_read, .int s_t.2.2.2.2.2.2.2.1, .int s_t.2.2.2.2.2.2.2.2.1])), (a_t_now, .inl (cI, 66, .inl s_t_now)), (a_t_diary, .inl (cI, 924, .inl (upd s_t_diary_2 (((66 : Int32) * s_t.2.2.2.1) + v1_2).toNatClampNeg (s_t_now v1_2.toNatClampNeg))))] H := hP
        have hD : va_D A [(a_t, .inr (4, [.ref a_t_text, .int s_t.1, .int s_t.2.1, .ref a_t_paper, .ref a_t_now, .ref a_t_trial, .ref a_t_diary, .int s_t.2.2.1, .int s_t.2.2.2.1, .ref a_t_kept, .ref a_t_isKept, .ref a_t_seenAt, .int s_t.2.2.2.2.1, .long s_t.2.2.2.2.2.2.2.2.2, .ref a_t_worth, .int s_t.2.2.2.2.2.1, .int s_t.2.2.2.2.2.2.1, .ref a_t_readPaper, .ref a_t_read, .int s_t.2.2.2.2.2.2.2.1, .int s_t.2.2.2.2.2.2.2.2.1])), (a_t_now, .inl (cI, 66, .inl s_t_now)), (a_t_diary, .inl (cI, 924, .inl (upd s_t_diary_2 (((66 : Int32) * s_t.2.2.2.1) + v1_2).toNatClampNeg (s_t_now v1_2.toNatClampNeg))))] := hD
        refine lv_iinc (v := (v1_2 + (1 : Int32))) (lv' := [(1, .int (v1_2 + (1 : Int32))), (0, .ref a_t)]) hx hb dX4_note_28 hl (k := 1) rfl rfl (by decide) rfl (fun ls hl => ?_)
        refine lv_goto (tgt := 2) hx hb dX4_note_31 (by decide) ?_
        exact ih_2 (v1_2 + (1 : Int32)) (upd s_t_diary_2 (((66 : Int32) * s_t.2.2.2.1) + v1_2).toNatClampNeg (s_t_now v1_2.toNatClampNeg)) hM ls _ _ hP hD hS (lv_sub hl [1, 0] rfl)
  exact w_2 FU (0 : Int32) s_t_diary hM ls _ _ hP hD hS (lv_sub hl [1, 0] rfl)
noncomputable def mX4_allow_b14 (s_t : Int32 × Int32 × Int32 × Int32 × Int32 × Int32 × Int32 × Int32 × Int32 × Int64) (s_t_now : Nat → Int32) (s_t_diary : Nat → Int32) (v1 : Int32) (v2 : Int32) (v3 : Int32) (v4 : Int32) (v5 : Int32) : Option (Int32 × (Int32 × Int32 × Int32 × Int32 × Int32 × Int32 × Int32 × Int32 × Int32 × Int64) × (Nat → Int32) × (Nat → Int32)) := (mX4_isOrigin v2).bind (fun x15 => (if x15 = true then (mX4_isRange v3 v4).bind (fun x26 => (if x26 = true then (mX4_in (v5.toInt64) (v4.toInt64) (5 : Int64)).bind (fun x41 => (if x41 = true then rd s_t_now 66 (0 : Int32) (fun x55 => (if x55 = (8 : Int32) then some ((-4 : Int32), s_t, s_t_now, s_t_diary) else (mX4_note s_t s_t_now s_t_diary).bind (fun x65 => (mX4_addGrant s_t_now v1 v2 v3 v4 v5).bind (fun x79 => rd x79 66 (0 : Int32) (fun x87 => some ((x87 - (1 : Int32)), x65.1, x79, x65.2)))))) else some ((-2 : Int32), s_t, s_t_now, s_t_diary))) else some ((-2 : Int32), s_t, s_t_now, s_t_diary))) else some ((-1 : Int32), s_t, s_t_now, s_t_diary)))
noncomputable def mX4_allow (s_t : Int32 × Int32 × Int32 × Int32 × Int32 × Int32 × Int32 × Int32 × Int32 × Int64) (s_t_now : Nat → Int32) (s_t_diary : Nat → Int32) (v1 : Int32) (v2 : Int32) (v3 : Int32) (v4 : Int32) (v5 : Int32) : Option (Int32 × (Int32 × Int32 × Int32 × Int32 × Int32 × Int32 × Int32 × Int32 × Int32 × Int64) × (Nat → Int32) × (Nat → Int32)) := (mX4_isPaper s_t v1).bind (fun x2 => (if x2 = true then mX4_allow_b14 s_t s_t_now s_t_diary v1 v2 v3 v4 v5 else (if v1 = (9 : Int32) then mX4_allow_b14 s_t s_t_now s_t_diary v1 v2 v3 v4 v5 else some ((-1 : Int32), s_t, s_t_now, s_t_diary))))
set_option maxHeartbeats 4000000 in
set_option maxRecDepth 100000 in
theorem okX4_allow {l : Launch} {dC : Nat → ClassId} {dI : Nat → Nat → Nat} {cI cC cZ : ClassId} (a_t a_t_text a_t_paper a_t_now a_t_trial a_t_diary a_t_kept a_t_isKept a_t_seenAt a_t_worth a_t_readPaper a_t_read : Nat) (s_t : Int32 × Int32 × Int32 × Int32 × Int32 × Int32 × Int32 × Int32 × Int32 × Int64) (s_t_now : Nat → Int32) (s_t_diary : Nat → Int32) (v1 : Int32) (v2 : Int32) (v3 : Int32) (v4 : Int32) (v5 : Int32) (res : Int32 × (Int32 × Int32 × Int32 × Int32 × Int32 × Int32 × Int32 × Int32 × Int32 × Int64) × (Nat → Int32) × (Nat → Int32)) (hM : mX4_allow s_t s_t_now s_t_diary v1 v2 v3 v4 v5 = some res) : Mu l yX4_allow cX4_allow 6 (some .int) 2 46 (dC, dI) cI cC cZ [(a_t, .inr (4, [.ref a_t_text, .int s_t.1, .int s_t.2.1, .ref a_t_paper, .ref a_t_now, .ref a_t_trial, .ref a_t_diary, .int s_t.2.2.1, .int s_t.2.2.2.1, .ref a_t_kept, .ref a_t_isKept, .ref a_t_seenAt, .int s_t.2.2.2.2.1, .long s_t.2.2.2.2.2.2.2.2.2, .ref a_t_worth, .int s_t.2.2.2.2.2.1, .int s_t.2.2.2.2.2.2.1, .ref a_t_readPaper, .ref a_t_read, .int s_t.2.2.2.2.2.2.2.1, .int s_t.2.2.2.2.2.2.2.2.1])), (a_t_now, .inl (cI, 66, .inl s_t_now)), (a_t_diary, .inl (cI, 924, .inl s_t_diary))] [(a_t, .inr (4, [.ref a_t_text, .int res.2.1.1, .int res.2.1.2.1, .ref a_t_paper, .ref a_t_now, .ref a_t_trial, .ref a_t_diary, .int res.2.1.2.2.1, .int res.2.1.2.2.2.1, .ref a_t_kept, .ref a_t_isKept, .ref a_t_seenAt, .int res.2.1.2.2.2.2.1, .long res.2.1.2.2.2.2.2.2.2.2.2, .ref a_t_worth, .int res.2.1.2.2.2.2.2.1, .int res.2.1.2.2.2.2.2.2.1, .ref a_t_readPaper, .ref a_t_read, .int res.2.1.2.2.2.2.2.2.2.1, .int res.2.1.2.2.2.2.2.2.2.2.1])), (a_t_now, .inl (cI, 66, .inl res.2.2.1)), (a_t_diary, .inl (cI, 924, .inl res.2.2.2))] [.ref a_t, .int v1, .int v2, .int v3, .int v4, .int v5] (some (.int res.1)) := by
  refine Mu.ofI (by decide) (Nat.le_of_ble_eq_true rfl) [(0, .ref a_t), (1, .int v1), (2, .int v2), (3, .int v3), (4, .int v4), (5, .int v5)] rfl ?_
  intro p e s m args below meth c ls Q A hx hb hml hown hU hE hP hD hS hA rt hl
  have hown : s.vm.findClass RX4 = some m.cls := hown
  unfold mX4_allow at hM
  refine lv_aload_n hx hb dX4_allow_0 rfl (lv_at hl 0 rfl) ?_
  refine lv_iload_n hx hb dX4_allow_1 rfl (lv_at hl 1 rfl) ?_
  obtain ⟨x2, h2, hM⟩ := bind_e hM
  refine rdV (As := [.int v1]) (rest := []) (st2 := [.int (b2i x2)]) ⟨hx, hb, hml, hown, hU⟩ hE (okX4_isPaper a_t a_t_text a_t_paper a_t_now a_t_trial a_t_diary a_t_kept a_t_isKept a_t_seenAt a_t_worth a_t_readPaper a_t_read s_t v1 x2 h2) lk_X4_165 (hP.sub [0] rfl) rfl rfl rfl hl.1 rfl (Nat.le_of_ble_eq_true rfl) ⟨Nat.le_of_ble_eq_true rfl, Nat.le_of_ble_eq_true rfl⟩ dX4_allow_2 ⟨Nat.le_refl _, Nat.le_refl _⟩ rfl ?_
  have w_14 : mX4_allow_b14 s_t s_t_now s_t_diary v1 v2 v3 v4 v5 = some res → ∀ (ls : Array Slot) (H : Heap) (locs : List Loc), va_P (dC, dI) vwCl [(a_t, .inr (4, [.ref a_t_text, .int s_t.1, .int s_t.2.1, .ref a_t_paper, .ref a_t_now, .ref a_t_trial, .ref a_t_diary, .int s_t.2.2.1, .int s_t.2.2.2.1, .ref a_t_kept, .ref a_t_isKept, .ref a_t_seenAt, .int s_t.2.2.2.2.1, .long s_t.2.2.2.2.2.2.2.2.2, .ref a_t_worth, .int s_t.2.2.2.2.2.1, .int s_t.2.2.2.2.2.2.1, .ref a_t_readPaper, .ref a_t_read, .int s_t.2.2.2.2.2.2.2.1, .int s_t.2.2.2.2.2.2.2.2.1])), (a_t_now, .inl (cI, 66, .inl s_t_now)), (a_t_diary, .inl (cI, 924, .inl s_t_diary))] H → va_D A [(a_t, .inr (4, [.ref a_t_text, .int s_t.1, .int s_t.2.1, .ref a_t_paper, .ref a_t_now, .ref a_t_trial, .ref a_t_diary, .int s_t.2.2.1, .int s_t.2.2.2.1, .ref a_t_kept, .ref a_t_isKept, .ref a_t_seenAt, .int s_t.2.2.2.2.1, .long s_t.2.2.2.2.2.2.2.2.2, .ref a_t_worth, .int s_t.2.2.2.2.2.1, .int s_t.2.2.2.2.2.2.1, .ref a_t_readPaper, .ref a_t_read, .int s_t.2.2.2.2.2.2.2.1, .int s_t.2.2.2.2.2.2.2.2.1])), (a_t_now, .inl (cI, 66, .inl s_t_now)), (a_t_diary, .inl (cI, 924, .inl s_t_diary))] → va_S A s.heap H locs → lv_has ls 6 [(0, .ref a_t), (1, .int v1), (2, .int v2), (3, .int v3), (4, .int v4), (5, .int v5)] → W p l e (RM 2 46) s m args below meth c H locs 0 0 Q (F0 m 14 ls []) := by
    intro  hM ls H locs hP hD hS hl
    unfold mX4_allow_b14 at hM
    refine lv_iload_n hx hb dX4_allow_14 rfl (lv_at hl 2 rfl) ?_
    obtain ⟨x15, h15, hM⟩ := bind_e hM
    refine rdS (As := [.int v2]) (rest := []) (st2 := [.int (b2i x15)]) ⟨hx, hb, hml, hown, hU⟩ hE (okX4_isOrigin v2 x15 h15) lk_X4_185 (hP.sub [] rfl) rfl hl.1 rfl (Nat.le_of_ble_eq_true rfl) ⟨Nat.le_of_ble_eq_true rfl, Nat.le_of_ble_eq_true rfl⟩ dX4_allow_15 ⟨Nat.le_refl _, Nat.le_refl _⟩ rfl ?_
    refine lv_if_ne (tgt := 23) hx hb dX4_allow_18 (by decide) (fun c18 => ?_) (fun c18 => ?_)
    · have hM := ite_t (b2i_ne0 c18) hM
      refine lv_iload_n hx hb dX4_allow_23 rfl (lv_at hl 3 rfl) ?_
      refine lv_iload hx hb dX4_allow_24 (lv_at hl 4 rfl) ?_
      obtain ⟨x26, h26, hM⟩ := bind_e hM
      refine rdS (As := [.int v3, .int v4]) (rest := []) (st2 := [.int (b2i x26)]) ⟨hx, hb, hml, hown, hU⟩ hE (okX4_isRange v3 v4 x26 h26) lk_X4_75 (hP.sub [] rfl) rfl hl.1 rfl (Nat.le_of_ble_eq_true rfl) ⟨Nat.le_of_ble_eq_true rfl, Nat.le_of_ble_eq_true rfl⟩ dX4_allow_26 ⟨Nat.le_refl _, Nat.le_refl _⟩ rfl ?_
      refine lv_if_eq (tgt := 47) hx hb dX4_allow_29 (by decide) (fun c29 => ?_) (fun c29 => ?_)
      · have hM := ite_f (b2i_eq0 c29) hM
        refine lv_bipush (v := (-2 : Int32)) hx hb dX4_allow_47 (by decide) ?_
        cases hM
        exact rt _ _ _ _ _ hP hS dX4_allow_49 rfl
      · have hM := ite_t (b2i_ne0 c29) hM
        refine lv_iload hx hb dX4_allow_32 (lv_at hl 5 rfl) ?_
        refine lv_i2l (v := (v5.toInt64)) hx hb dX4_allow_34 rfl ?_
        refine lv_iload hx hb dX4_allow_35 (lv_at hl 4 rfl) ?_
        refine lv_i2l (v := (v4.toInt64)) hx hb dX4_allow_37 rfl ?_
        refine lv_ldc2 hx hb hown (hU _ u_9_14) dX4_allow_38 ?_
        obtain ⟨x41, h41, hM⟩ := bind_e hM
        refine rdS (As := [.long (v5.toInt64), .long (v4.toInt64), .long (5 : Int64)]) (rest := []) (st2 := [.int (b2i x41)]) ⟨hx, hb, hml, hown, hU⟩ hE (okX4_in (v5.toInt64) (v4.toInt64) (5 : Int64) x41 h41) lk_X4_50 (hP.sub [] rfl) rfl hl.1 rfl (Nat.le_of_ble_eq_true rfl) ⟨Nat.le_of_ble_eq_true rfl, Nat.le_of_ble_eq_true rfl⟩ dX4_allow_41 ⟨Nat.le_refl _, Nat.le_refl _⟩ rfl ?_
        refine lv_if_ne (tgt := 50) hx hb dX4_allow_44 (by decide) (fun c44 => ?_) (fun c44 => ?_)
        · have hM := ite_t (b2i_ne0 c44) hM
          refine lv_aload_n hx hb dX4_allow_50 rfl (lv_at hl 0 rfl) ?_
          refine va_get (D := (dC, dI)) (ci := 4) (v := .ref a_t_now) (C := RX4) (T := TX4) (N := 21) hx hb hU inlX4 hown hE.1 hP 0 rfl rfl 4 (by decide) (hU _ u_4_15) (fun _ h9 => h9) rfl dX4_allow_51 ?_
          refine lv_iconst (v := (0 : Int32)) hx hb dX4_allow_54 (by decide) ?_
          obtain ⟨g55, hM⟩ := rd_e hM
          refine va_iald hx hb hE.1 hP 1 0 rfl rfl g55 dX4_allow_55 ?_
          refine lv_bipush (v := (8 : Int32)) hx hb dX4_allow_56 (by decide) ?_
          refine lv_icmp_ne (tgt := 64) hx hb dX4_allow_58 (by decide) (fun c58 => ?_) (fun c58 => ?_)
          · have hM := ite_f c58 hM
            refine lv_aload_n hx hb dX4_allow_64 rfl (lv_at hl 0 rfl) ?_
            obtain ⟨x65, h65, hM⟩ := bind_e hM
            refine muV (As := []) (rest := []) (st2 := []) (nw := [(a_t, .inr (4, [.ref a_t_text, .int x65.1.1, .int x65.1.2.1, .ref a_t_paper, .ref a_t_now, .ref a_t_trial, .ref a_t_diary, .int x65.1.2.2.1, .int x65.1.2.2.2.1, .ref a_t_kept, .ref a_t_isKept, .ref a_t_seenAt, .int x65.1.2.2.2.2.1, .long x65.1.2.2.2.2.2.2.2.2.2, .ref a_t_worth, .int x65.1.2.2.2.2.2.1, .int x65.1.2.2.2.2.2.2.1, .ref a_t_readPaper, .ref a_t_read, .int x65.1.2.2.2.2.2.2.2.1, .int x65.1.2.2.2.2.2.2.2.2.1])), (a_t_now, .inl (cI, 66, .inl s_t_now)), (a_t_diary, .inl (cI, 924, .inl x65.2))]) ⟨hx, hb, hml, hown, hU⟩ hE (okX4_note a_t a_t_text a_t_paper a_t_now a_t_trial a_t_diary a_t_kept a_t_isKept a_t_seenAt a_t_worth a_t_readPaper a_t_read s_t s_t_now s_t_diary x65 h65) lk_X4_188 hP hD hS hA [0, 1, 2] rfl rfl rfl rfl rfl rfl hl.1 rfl (Nat.le_of_ble_eq_true rfl) ⟨Nat.le_of_ble_eq_true rfl, Nat.le_of_ble_eq_true rfl⟩ dX4_allow_65 ⟨Nat.le_refl _, Nat.le_refl _⟩ rfl rfl rfl rfl (fun H locs hP hD hS => ?_)
            refine lv_aload_n hx hb dX4_allow_68 rfl (lv_at hl 0 rfl) ?_
            refine va_get (D := (dC, dI)) (ci := 4) (v := .ref a_t_now) (C := RX4) (T := TX4) (N := 21) hx hb hU inlX4 hown hE.1 hP 0 rfl rfl 4 (by decide) (hU _ u_4_15) (fun _ h9 => h9) rfl dX4_allow_69 ?_
            refine lv_iload_n hx hb dX4_allow_72 rfl (lv_at hl 1 rfl) ?_
            refine lv_iload_n hx hb dX4_allow_73 rfl (lv_at hl 2 rfl) ?_
            refine lv_iload_n hx hb dX4_allow_74 rfl (lv_at hl 3 rfl) ?_
            refine lv_iload hx hb dX4_allow_75 (lv_at hl 4 rfl) ?_
            refine lv_iload hx hb dX4_allow_77 (lv_at hl 5 rfl) ?_
            obtain ⟨x79, h79, hM⟩ := bind_e hM
            refine muS (As := [.ref a_t_now, .int v1, .int v2, .int v3, .int v4, .int v5]) (rest := []) (st2 := []) (nw := [(a_t, .inr (4, [.ref a_t_text, .int x65.1.1, .int x65.1.2.1, .ref a_t_paper, .ref a_t_now, .ref a_t_trial, .ref a_t_diary, .int x65.1.2.2.1, .int x65.1.2.2.2.1, .ref a_t_kept, .ref a_t_isKept, .ref a_t_seenAt, .int x65.1.2.2.2.2.1, .long x65.1.2.2.2.2.2.2.2.2.2, .ref a_t_worth, .int x65.1.2.2.2.2.2.1, .int x65.1.2.2.2.2.2.2.1, .ref a_t_readPaper, .ref a_t_read, .int x65.1.2.2.2.2.2.2.2.1, .int x65.1.2.2.2.2.2.2.2.2.1])), (a_t_now, .inl (cI, 66, .inl x79)), (a_t_diary, .inl (cI, 924, .inl x65.2))]) ⟨hx, hb, hml, hown, hU⟩ hE (okX4_addGrant a_t_now s_t_now v1 v2 v3 v4 v5 x79 h79) lk_X4_89 hP hD hS hA [1] rfl rfl rfl rfl hl.1 rfl (Nat.le_of_ble_eq_true rfl) ⟨Nat.le_of_ble_eq_true rfl, Nat.le_of_ble_eq_true rfl⟩ dX4_allow_79 ⟨Nat.le_refl _, Nat.le_refl _⟩ rfl rfl rfl rfl (fun H locs hP hD hS => ?_)
            refine lv_aload_n hx hb dX4_allow_82 rfl (lv_at hl 0 rfl) ?_
            refine va_get (D := (dC, dI)) (ci := 4) (v := .ref a_t_now) (C := RX4) (T := TX4) (N := 21) hx hb hU inlX4 hown hE.1 hP 0 rfl rfl 4 (by decide) (hU _ u_4_15) (fun _ h9 => h9) rfl dX4_allow_83 ?_
            refine lv_iconst (v := (0 : Int32)) hx hb dX4_allow_86 (by decide) ?_
            obtain ⟨g87, hM⟩ := rd_e hM
            refine va_iald hx hb hE.1 hP 1 0 rfl rfl g87 dX4_allow_87 ?_
            refine lv_iconst (v := (1 : Int32)) hx hb dX4_allow_88 (by decide) ?_
            refine lv_isub hx hb dX4_allow_89 ?_
            cases hM
            exact rt _ _ _ _ _ hP hS dX4_allow_90 rfl
          · have hM := ite_t c58 hM
            refine lv_bipush (v := (-4 : Int32)) hx hb dX4_allow_61 (by decide) ?_
            cases hM
            exact rt _ _ _ _ _ hP hS dX4_allow_63 rfl
        · have hM := ite_f (b2i_eq0 c44) hM
          refine lv_bipush (v := (-2 : Int32)) hx hb dX4_allow_47 (by decide) ?_
          cases hM
          exact rt _ _ _ _ _ hP hS dX4_allow_49 rfl
    · have hM := ite_f (b2i_eq0 c18) hM
      refine lv_iconst (v := (-1 : Int32)) hx hb dX4_allow_21 (by decide) ?_
      cases hM
      exact rt _ _ _ _ _ hP hS dX4_allow_22 rfl
  refine lv_if_ne (tgt := 14) hx hb dX4_allow_5 (by decide) (fun c5 => ?_) (fun c5 => ?_)
  · have hM := ite_t (b2i_ne0 c5) hM
    exact w_14  hM ls _ _ hP hD hS (lv_sub hl [0, 1, 2, 3, 4, 5] rfl)
  · have hM := ite_f (b2i_eq0 c5) hM
    refine lv_iload_n hx hb dX4_allow_8 rfl (lv_at hl 1 rfl) ?_
    refine lv_bipush (v := (9 : Int32)) hx hb dX4_allow_9 (by decide) ?_
    refine lv_icmp_ne (tgt := 21) hx hb dX4_allow_11 (by decide) (fun c11 => ?_) (fun c11 => ?_)
    · have hM := ite_f c11 hM
      refine lv_iconst (v := (-1 : Int32)) hx hb dX4_allow_21 (by decide) ?_
      cases hM
      exact rt _ _ _ _ _ hP hS dX4_allow_22 rfl
    · have hM := ite_t c11 hM
      exact w_14  hM ls _ _ hP hD hS (lv_sub hl [0, 1, 2, 3, 4, 5] rfl)
noncomputable def mX4_announce (s_t : Int32 × Int32 × Int32 × Int32 × Int32 × Int32 × Int32 × Int32 × Int32 × Int64) (s_t_now : Nat → Int32) (s_t_diary : Nat → Int32) (v1 : Int32) (v2 : Int32) (v3 : Int32) : Option (Int32 × (Int32 × Int32 × Int32 × Int32 × Int32 × Int32 × Int32 × Int32 × Int32 × Int64) × (Nat → Int32) × (Nat → Int32)) := (mX4_isRange v1 v2).bind (fun x2 => (if x2 = true then (mX4_isOrigin v3).bind (fun x12 => (if x12 = true then rd s_t_now 66 (41 : Int32) (fun x26 => (if x26 = (6 : Int32) then some ((-4 : Int32), s_t, s_t_now, s_t_diary) else (mX4_note s_t s_t_now s_t_diary).bind (fun x36 => (mX4_addRoute s_t_now v1 v2 v3).bind (fun x46 => rd x46 66 (41 : Int32) (fun x55 => some ((x55 - (1 : Int32)), x36.1, x46, x36.2)))))) else some ((-1 : Int32), s_t, s_t_now, s_t_diary))) else some ((-2 : Int32), s_t, s_t_now, s_t_diary)))
set_option maxHeartbeats 4000000 in
set_option maxRecDepth 100000 in
theorem okX4_announce {l : Launch} {dC : Nat → ClassId} {dI : Nat → Nat → Nat} {cI cC cZ : ClassId} (a_t a_t_text a_t_paper a_t_now a_t_trial a_t_diary a_t_kept a_t_isKept a_t_seenAt a_t_worth a_t_readPaper a_t_read : Nat) (s_t : Int32 × Int32 × Int32 × Int32 × Int32 × Int32 × Int32 × Int32 × Int32 × Int64) (s_t_now : Nat → Int32) (s_t_diary : Nat → Int32) (v1 : Int32) (v2 : Int32) (v3 : Int32) (res : Int32 × (Int32 × Int32 × Int32 × Int32 × Int32 × Int32 × Int32 × Int32 × Int32 × Int64) × (Nat → Int32) × (Nat → Int32)) (hM : mX4_announce s_t s_t_now s_t_diary v1 v2 v3 = some res) : Mu l yX4_announce cX4_announce 4 (some .int) 2 46 (dC, dI) cI cC cZ [(a_t, .inr (4, [.ref a_t_text, .int s_t.1, .int s_t.2.1, .ref a_t_paper, .ref a_t_now, .ref a_t_trial, .ref a_t_diary, .int s_t.2.2.1, .int s_t.2.2.2.1, .ref a_t_kept, .ref a_t_isKept, .ref a_t_seenAt, .int s_t.2.2.2.2.1, .long s_t.2.2.2.2.2.2.2.2.2, .ref a_t_worth, .int s_t.2.2.2.2.2.1, .int s_t.2.2.2.2.2.2.1, .ref a_t_readPaper, .ref a_t_read, .int s_t.2.2.2.2.2.2.2.1, .int s_t.2.2.2.2.2.2.2.2.1])), (a_t_now, .inl (cI, 66, .inl s_t_now)), (a_t_diary, .inl (cI, 924, .inl s_t_diary))] [(a_t, .inr (4, [.ref a_t_text, .int res.2.1.1, .int res.2.1.2.1, .ref a_t_paper, .ref a_t_now, .ref a_t_trial, .ref a_t_diary, .int res.2.1.2.2.1, .int res.2.1.2.2.2.1, .ref a_t_kept, .ref a_t_isKept, .ref a_t_seenAt, .int res.2.1.2.2.2.2.1, .long res.2.1.2.2.2.2.2.2.2.2.2, .ref a_t_worth, .int res.2.1.2.2.2.2.2.1, .int res.2.1.2.2.2.2.2.2.1, .ref a_t_readPaper, .ref a_t_read, .int res.2.1.2.2.2.2.2.2.2.1, .int res.2.1.2.2.2.2.2.2.2.2.1])), (a_t_now, .inl (cI, 66, .inl res.2.2.1)), (a_t_diary, .inl (cI, 924, .inl res.2.2.2))] [.ref a_t, .int v1, .int v2, .int v3] (some (.int res.1)) := by
  refine Mu.ofI (by decide) (Nat.le_of_ble_eq_true rfl) [(0, .ref a_t), (1, .int v1), (2, .int v2), (3, .int v3)] rfl ?_
  intro p e s m args below meth c ls Q A hx hb hml hown hU hE hP hD hS hA rt hl
  have hown : s.vm.findClass RX4 = some m.cls := hown
  unfold mX4_announce at hM
  refine lv_iload_n hx hb dX4_announce_0 rfl (lv_at hl 1 rfl) ?_
  refine lv_iload_n hx hb dX4_announce_1 rfl (lv_at hl 2 rfl) ?_
  obtain ⟨x2, h2, hM⟩ := bind_e hM
  refine rdS (As := [.int v1, .int v2]) (rest := []) (st2 := [.int (b2i x2)]) ⟨hx, hb, hml, hown, hU⟩ hE (okX4_isRange v1 v2 x2 h2) lk_X4_75 (hP.sub [] rfl) rfl hl.1 rfl (Nat.le_of_ble_eq_true rfl) ⟨Nat.le_of_ble_eq_true rfl, Nat.le_of_ble_eq_true rfl⟩ dX4_announce_2 ⟨Nat.le_refl _, Nat.le_refl _⟩ rfl ?_
  refine lv_if_ne (tgt := 11) hx hb dX4_announce_5 (by decide) (fun c5 => ?_) (fun c5 => ?_)
  · have hM := ite_t (b2i_ne0 c5) hM
    refine lv_iload_n hx hb dX4_announce_11 rfl (lv_at hl 3 rfl) ?_
    obtain ⟨x12, h12, hM⟩ := bind_e hM
    refine rdS (As := [.int v3]) (rest := []) (st2 := [.int (b2i x12)]) ⟨hx, hb, hml, hown, hU⟩ hE (okX4_isOrigin v3 x12 h12) lk_X4_185 (hP.sub [] rfl) rfl hl.1 rfl (Nat.le_of_ble_eq_true rfl) ⟨Nat.le_of_ble_eq_true rfl, Nat.le_of_ble_eq_true rfl⟩ dX4_announce_12 ⟨Nat.le_refl _, Nat.le_refl _⟩ rfl ?_
    refine lv_if_ne (tgt := 20) hx hb dX4_announce_15 (by decide) (fun c15 => ?_) (fun c15 => ?_)
    · have hM := ite_t (b2i_ne0 c15) hM
      refine lv_aload_n hx hb dX4_announce_20 rfl (lv_at hl 0 rfl) ?_
      refine va_get (D := (dC, dI)) (ci := 4) (v := .ref a_t_now) (C := RX4) (T := TX4) (N := 21) hx hb hU inlX4 hown hE.1 hP 0 rfl rfl 4 (by decide) (hU _ u_4_15) (fun _ h9 => h9) rfl dX4_announce_21 ?_
      refine lv_bipush (v := (41 : Int32)) hx hb dX4_announce_24 (by decide) ?_
      obtain ⟨g26, hM⟩ := rd_e hM
      refine va_iald hx hb hE.1 hP 1 0 rfl rfl g26 dX4_announce_26 ?_
      refine lv_bipush (v := (6 : Int32)) hx hb dX4_announce_27 (by decide) ?_
      refine lv_icmp_ne (tgt := 35) hx hb dX4_announce_29 (by decide) (fun c29 => ?_) (fun c29 => ?_)
      · have hM := ite_f c29 hM
        refine lv_aload_n hx hb dX4_announce_35 rfl (lv_at hl 0 rfl) ?_
        obtain ⟨x36, h36, hM⟩ := bind_e hM
        refine muV (As := []) (rest := []) (st2 := []) (nw := [(a_t, .inr (4, [.ref a_t_text, .int x36.1.1, .int x36.1.2.1, .ref a_t_paper, .ref a_t_now, .ref a_t_trial, .ref a_t_diary, .int x36.1.2.2.1, .int x36.1.2.2.2.1, .ref a_t_kept, .ref a_t_isKept, .ref a_t_seenAt, .int x36.1.2.2.2.2.1, .long x36.1.2.2.2.2.2.2.2.2.2, .ref a_t_worth, .int x36.1.2.2.2.2.2.1, .int x36.1.2.2.2.2.2.2.1, .ref a_t_readPaper, .ref a_t_read, .int x36.1.2.2.2.2.2.2.2.1, .int x36.1.2.2.2.2.2.2.2.2.1])), (a_t_now, .inl (cI, 66, .inl s_t_now)), (a_t_diary, .inl (cI, 924, .inl x36.2))]) ⟨hx, hb, hml, hown, hU⟩ hE (okX4_note a_t a_t_text a_t_paper a_t_now a_t_trial a_t_diary a_t_kept a_t_isKept a_t_seenAt a_t_worth a_t_readPaper a_t_read s_t s_t_now s_t_diary x36 h36) lk_X4_188 hP hD hS hA [0, 1, 2] rfl rfl rfl rfl rfl rfl hl.1 rfl (Nat.le_of_ble_eq_true rfl) ⟨Nat.le_of_ble_eq_true rfl, Nat.le_of_ble_eq_true rfl⟩ dX4_announce_36 ⟨Nat.le_refl _, Nat.le_refl _⟩ rfl rfl rfl rfl (fun H locs hP hD hS => ?_)
        refine lv_aload_n hx hb dX4_announce_39 rfl (lv_at hl 0 rfl) ?_
        refine va_get (D := (dC, dI)) (ci := 4) (v := .ref a_t_now) (C := RX4) (T := TX4) (N := 21) hx hb hU inlX4 hown hE.1 hP 0 rfl rfl 4 (by decide) (hU _ u_4_15) (fun _ h9 => h9) rfl dX4_announce_40 ?_
        refine lv_iload_n hx hb dX4_announce_43 rfl (lv_at hl 1 rfl) ?_
        refine lv_iload_n hx hb dX4_announce_44 rfl (lv_at hl 2 rfl) ?_
        refine lv_iload_n hx hb dX4_announce_45 rfl (lv_at hl 3 rfl) ?_
        obtain ⟨x46, h46, hM⟩ := bind_e hM
        refine muS (As := [.ref a_t_now, .int v1, .int v2, .int v3]) (rest := []) (st2 := []) (nw := [(a_t, .inr (4, [.ref a_t_text, .int x36.1.1, .int x36.1.2.1, .ref a_t_paper, .ref a_t_now, .ref a_t_trial, .ref a_t_diary, .int x36.1.2.2.1, .int x36.1.2.2.2.1, .ref a_t_kept, .ref a_t_isKept, .ref a_t_seenAt, .int x36.1.2.2.2.2.1, .long x36.1.2.2.2.2.2.2.2.2.2, .ref a_t_worth, .int x36.1.2.2.2.2.2.1, .int x36.1.2.2.2.2.2.2.1, .ref a_t_readPaper, .ref a_t_read, .int x36.1.2.2.2.2.2.2.2.1, .int x36.1.2.2.2.2.2.2.2.2.1])), (a_t_now, .inl (cI, 66, .inl x46)), (a_t_diary, .inl (cI, 924, .inl x36.2))]) ⟨hx, hb, hml, hown, hU⟩ hE (okX4_addRoute a_t_now s_t_now v1 v2 v3 x46 h46) lk_X4_93 hP hD hS hA [1] rfl rfl rfl rfl hl.1 rfl (Nat.le_of_ble_eq_true rfl) ⟨Nat.le_of_ble_eq_true rfl, Nat.le_of_ble_eq_true rfl⟩ dX4_announce_46 ⟨Nat.le_refl _, Nat.le_refl _⟩ rfl rfl rfl rfl (fun H locs hP hD hS => ?_)
        refine lv_aload_n hx hb dX4_announce_49 rfl (lv_at hl 0 rfl) ?_
        refine va_get (D := (dC, dI)) (ci := 4) (v := .ref a_t_now) (C := RX4) (T := TX4) (N := 21) hx hb hU inlX4 hown hE.1 hP 0 rfl rfl 4 (by decide) (hU _ u_4_15) (fun _ h9 => h9) rfl dX4_announce_50 ?_
        refine lv_bipush (v := (41 : Int32)) hx hb dX4_announce_53 (by decide) ?_
        obtain ⟨g55, hM⟩ := rd_e hM
        refine va_iald hx hb hE.1 hP 1 0 rfl rfl g55 dX4_announce_55 ?_
        refine lv_iconst (v := (1 : Int32)) hx hb dX4_announce_56 (by decide) ?_
        refine lv_isub hx hb dX4_announce_57 ?_
        cases hM
        exact rt _ _ _ _ _ hP hS dX4_announce_58 rfl
      · have hM := ite_t c29 hM
        refine lv_bipush (v := (-4 : Int32)) hx hb dX4_announce_32 (by decide) ?_
        cases hM
        exact rt _ _ _ _ _ hP hS dX4_announce_34 rfl
    · have hM := ite_f (b2i_eq0 c15) hM
      refine lv_iconst (v := (-1 : Int32)) hx hb dX4_announce_18 (by decide) ?_
      cases hM
      exact rt _ _ _ _ _ hP hS dX4_announce_19 rfl
  · have hM := ite_f (b2i_eq0 c5) hM
    refine lv_bipush (v := (-2 : Int32)) hx hb dX4_announce_8 (by decide) ?_
    cases hM
    exact rt _ _ _ _ _ hP hS dX4_announce_10 rfl
noncomputable def mX4_copy_b2 (s_q0 : Nat → Int32) : Nat → Int32 → (Nat → Int32) → Option (Nat → Int32)
  | 0, _, _ => none
  | n + 1, v2, s_q1 => (if (66 : Int32) ≤ v2 then some (s_q1) else rd s_q0 66 v2 (fun x12 => wr s_q1 66 v2 x12 (fun x13 => mX4_copy_b2 s_q0 n (v2 + (1 : Int32)) x13)))
noncomputable def mX4_copy (s_q0 : Nat → Int32) (s_q1 : Nat → Int32) : Option (Nat → Int32) := mX4_copy_b2 s_q0 FU (0 : Int32) s_q1
set_option maxHeartbeats 4000000 in
set_option maxRecDepth 100000 in
theorem okX4_copy {l : Launch} {dC : Nat → ClassId} {dI : Nat → Nat → Nat} {cI cC cZ : ClassId} (a_q0 a_q1 : Nat) (s_q0 : Nat → Int32) (s_q1 : Nat → Int32) (res : Nat → Int32) (hM : mX4_copy s_q0 s_q1 = some res) : Mu l yX4_copy cX4_copy 3 none 0 0 (dC, dI) cI cC cZ [(a_q0, .inl (cI, 66, .inl s_q0)), (a_q1, .inl (cI, 66, .inl s_q1))] [(a_q0, .inl (cI, 66, .inl s_q0)), (a_q1, .inl (cI, 66, .inl res))] [.ref a_q0, .ref a_q1] none := by
  refine Mu.ofV (by decide) (Nat.le_of_ble_eq_true rfl) [(0, .ref a_q0), (1, .ref a_q1)] rfl ?_
  intro p e s m args below meth c ls Q A hx hb hml hown hU hE hP hD hS hA rt hl
  have hown : s.vm.findClass RX4 = some m.cls := hown
  unfold mX4_copy at hM
  refine lv_iconst (v := (0 : Int32)) hx hb dX4_copy_0 (by decide) ?_
  refine lv_istore_n (lv' := [(2, .int (0 : Int32)), (0, .ref a_q0), (1, .ref a_q1)]) hx hb dX4_copy_1 rfl hl (by decide) rfl (fun ls hl => ?_)
  have w_2 : ∀ (n : Nat) (v2_2 : Int32) (s_q1_2 : Nat → Int32), mX4_copy_b2 s_q0 n v2_2 s_q1_2 = some res → ∀ (ls : Array Slot) (H : Heap) (locs : List Loc), va_P (dC, dI) vwCl [(a_q0, .inl (cI, 66, .inl s_q0)), (a_q1, .inl (cI, 66, .inl s_q1_2))] H → va_D A [(a_q0, .inl (cI, 66, .inl s_q0)), (a_q1, .inl (cI, 66, .inl s_q1_2))] → va_S A s.heap H locs → lv_has ls 3 [(0, .ref a_q0), (1, .ref a_q1), (2, .int v2_2)] → W p l e (RM 0 0) s m args below meth c H locs 0 0 Q (F0 m 2 ls []) := by
    intro n
    induction n with
    | zero =>
      intro v2_2 s_q1_2 hM
      rw [mX4_copy_b2] at hM
      cases hM
    | succ n_2 ih_2 =>
      intro v2_2 s_q1_2 hM ls H locs hP hD hS hl
      rw [mX4_copy_b2] at hM
      refine lv_iload_n hx hb dX4_copy_2 rfl (lv_at hl 2 rfl) ?_
      refine lv_bipush (v := (66 : Int32)) hx hb dX4_copy_3 (by decide) ?_
      refine lv_icmp_ge (tgt := 20) hx hb dX4_copy_5 (by decide) (fun c5 => ?_) (fun c5 => ?_)
      · have hM := ite_t c5 hM
        cases hM
        exact rt _ _ _ _ hP hS dX4_copy_20 rfl
      · have hM := ite_f c5 hM
        refine lv_aload_n hx hb dX4_copy_8 rfl (lv_at hl 1 rfl) ?_
        refine lv_iload_n hx hb dX4_copy_9 rfl (lv_at hl 2 rfl) ?_
        refine lv_aload_n hx hb dX4_copy_10 rfl (lv_at hl 0 rfl) ?_
        refine lv_iload_n hx hb dX4_copy_11 rfl (lv_at hl 2 rfl) ?_
        obtain ⟨g12, hM⟩ := rd_e hM
        refine va_iald hx hb hE.1 hP 0 0 rfl rfl g12 dX4_copy_12 ?_
        obtain ⟨g13, hM⟩ := wr_e hM
        refine va_iast hx hb hE.1 hP hD hS 1 0 rfl rfl g13 dX4_copy_13 (fun H locs hP hD hS => ?_)
        have hP : va_P (dC, dI) vwCl [(a_q0, .inl (cI, 66, .inl s_q0)), (a_q1, .inl (cI, 66, .inl (upd s_q1_2 v2_2.toNatClampNeg (s_q0 v2_2.toNatClampNeg))))] H := hP
        have hD : va_D A [(a_q0, .inl (cI, 66, .inl s_q0)), (a_q1, .inl (cI, 66, .inl (upd s_q1_2 v2_2.toNatClampNeg (s_q0 v2_2.toNatClampNeg))))] := hD
        refine lv_iinc (v := (v2_2 + (1 : Int32))) (lv' := [(2, .int (v2_2 + (1 : Int32))), (0, .ref a_q0), (1, .ref a_q1)]) hx hb dX4_copy_14 hl (k := 2) rfl rfl (by decide) rfl (fun ls hl => ?_)
        refine lv_goto (tgt := 2) hx hb dX4_copy_17 (by decide) ?_
        exact ih_2 (v2_2 + (1 : Int32)) (upd s_q1_2 v2_2.toNatClampNeg (s_q0 v2_2.toNatClampNeg)) hM ls _ _ hP hD hS (lv_sub hl [1, 2, 0] rfl)
  exact w_2 FU (0 : Int32) s_q1 hM ls _ _ hP hD hS (lv_sub hl [1, 2, 0] rfl)
noncomputable def mX4_fraction_b14 (v0 : Int32) (v1 : Int32) (v2 : Bool) : Nat → Int32 → Int32 → Option (Int32)
  | 0, _, _ => none
  | n + 1, v3, v4 => (if v4 = 0 then (if v2 = true then dv v0 v3 (fun x41 => some (x41)) else dv v1 v3 (fun x47 => some (x47))) else rmd v3 v4 (fun x22 => mX4_fraction_b14 v0 v1 v2 n v4 x22))
noncomputable def mX4_fraction (v0 : Int32) (v1 : Int32) (v2 : Bool) : Option (Int32) := (if 0 ≤ v0 then mX4_fraction_b14 v0 v1 v2 FU v0 v1 else mX4_fraction_b14 v0 v1 v2 FU (-v0) v1)
set_option maxHeartbeats 4000000 in
set_option maxRecDepth 100000 in
theorem okX4_fraction {l : Launch} {dC : Nat → ClassId} {dI : Nat → Nat → Nat} {cI cC cZ : ClassId} (v0 : Int32) (v1 : Int32) (v2 : Bool) (res : Int32) (hM : mX4_fraction v0 v1 v2 = some res) : Rd l yX4_fraction cX4_fraction 6 (some .int) 0 0 (dC, dI) cI cC cZ [] [.int v0, .int v1, .int (b2i v2)] (some (.int res)) := by
  refine Rd.ofI (by decide) (Nat.le_of_ble_eq_true rfl) [(0, .int v0), (1, .int v1), (2, .int (b2i v2))] rfl ?_
  intro p e s m args below meth c ls Q hx hb hml hown hU hE hP rt hl
  have hown : s.vm.findClass RX4 = some m.cls := hown
  unfold mX4_fraction at hM
  refine lv_iload_n hx hb dX4_fraction_0 rfl (lv_at hl 0 rfl) ?_
  refine lv_if_ge (tgt := 9) hx hb dX4_fraction_1 (by decide) (fun c1 => ?_) (fun c1 => ?_)
  · have hM := ite_t c1 hM
    refine lv_iload_n hx hb dX4_fraction_9 rfl (lv_at hl 0 rfl) ?_
    refine lv_istore_n (lv' := [(3, .int v0), (0, .int v0), (1, .int v1), (2, .int (b2i v2))]) hx hb dX4_fraction_10 rfl hl (by decide) rfl (fun ls hl => ?_)
    refine lv_iload_n hx hb dX4_fraction_11 rfl (lv_at hl 2 rfl) ?_
    refine lv_istore (lv' := [(4, .int v1), (3, .int v0), (0, .int v0), (1, .int v1), (2, .int (b2i v2))]) hx hb dX4_fraction_12 hl (by decide) rfl (fun ls hl => ?_)
    have w_14 : ∀ (n : Nat) (v3_14 : Int32) (v4_14 : Int32), mX4_fraction_b14 v0 v1 v2 n v3_14 v4_14 = some res → ∀ (ls : Array Slot), lv_has ls 6 [(0, .int v0), (1, .int v1), (2, .int (b2i v2)), (3, .int v3_14), (4, .int v4_14)] → W p l e (RM 0 0) s m args below meth c s.heap [] 0 0 Q (F0 m 14 ls []) := by
      intro n
      induction n with
      | zero =>
        intro v3_14 v4_14 hM
        rw [mX4_fraction_b14] at hM
        cases hM
      | succ n_14 ih_14 =>
        intro v3_14 v4_14 hM ls hl
        rw [mX4_fraction_b14] at hM
        refine lv_iload hx hb dX4_fraction_14 (lv_at hl 4 rfl) ?_
        refine lv_if_eq (tgt := 35) hx hb dX4_fraction_16 (by decide) (fun c16 => ?_) (fun c16 => ?_)
        · have hM := ite_t c16 hM
          refine lv_iload_n hx hb dX4_fraction_35 rfl (lv_at hl 2 rfl) ?_
          refine lv_if_eq (tgt := 45) hx hb dX4_fraction_36 (by decide) (fun c36 => ?_) (fun c36 => ?_)
          · have hM := ite_f (b2i_eq0 c36) hM
            refine lv_iload_n hx hb dX4_fraction_45 rfl (lv_at hl 1 rfl) ?_
            refine lv_iload_n hx hb dX4_fraction_46 rfl (lv_at hl 3 rfl) ?_
            obtain ⟨g47, hM⟩ := dv_e hM
            refine lv_idiv hx hb dX4_fraction_47 g47 ?_
            cases hM
            exact rt _ _ _ dX4_fraction_48 rfl
          · have hM := ite_t (b2i_ne0 c36) hM
            refine lv_iload_n hx hb dX4_fraction_39 rfl (lv_at hl 0 rfl) ?_
            refine lv_iload_n hx hb dX4_fraction_40 rfl (lv_at hl 3 rfl) ?_
            obtain ⟨g41, hM⟩ := dv_e hM
            refine lv_idiv hx hb dX4_fraction_41 g41 ?_
            refine lv_goto (tgt := 48) hx hb dX4_fraction_42 (by decide) ?_
            cases hM
            exact rt _ _ _ dX4_fraction_48 rfl
        · have hM := ite_f c16 hM
          refine lv_iload_n hx hb dX4_fraction_19 rfl (lv_at hl 3 rfl) ?_
          refine lv_iload hx hb dX4_fraction_20 (lv_at hl 4 rfl) ?_
          obtain ⟨g22, hM⟩ := rmd_e hM
          refine lv_irem hx hb dX4_fraction_22 g22 ?_
          refine lv_istore (lv' := [(5, .int (v3_14 - v3_14 / v4_14 * v4_14)), (0, .int v0), (1, .int v1), (2, .int (b2i v2)), (3, .int v3_14), (4, .int v4_14)]) hx hb dX4_fraction_23 hl (by decide) rfl (fun ls hl => ?_)
          refine lv_iload hx hb dX4_fraction_25 (lv_at hl 5 rfl) ?_
          refine lv_istore_n (lv' := [(3, .int v4_14), (5, .int (v3_14 - v3_14 / v4_14 * v4_14)), (0, .int v0), (1, .int v1), (2, .int (b2i v2)), (4, .int v4_14)]) hx hb dX4_fraction_27 rfl hl (by decide) rfl (fun ls hl => ?_)
          refine lv_iload hx hb dX4_fraction_28 (lv_at hl 1 rfl) ?_
          refine lv_istore (lv' := [(4, .int (v3_14 - v3_14 / v4_14 * v4_14)), (3, .int v4_14), (5, .int (v3_14 - v3_14 / v4_14 * v4_14)), (0, .int v0), (1, .int v1), (2, .int (b2i v2))]) hx hb dX4_fraction_30 hl (by decide) rfl (fun ls hl => ?_)
          refine lv_goto (tgt := 14) hx hb dX4_fraction_32 (by decide) ?_
          exact ih_14 v4_14 (v3_14 - v3_14 / v4_14 * v4_14) hM ls (lv_sub hl [3, 4, 5, 1, 0] rfl)
    exact w_14 FU v0 v1 hM ls (lv_sub hl [2, 3, 4, 1, 0] rfl)
  · have hM := ite_f c1 hM
    refine lv_iload_n hx hb dX4_fraction_4 rfl (lv_at hl 0 rfl) ?_
    refine lv_ineg hx hb dX4_fraction_5 ?_
    refine lv_goto (tgt := 10) hx hb dX4_fraction_6 (by decide) ?_
    refine lv_istore_n (lv' := [(3, .int (-v0)), (0, .int v0), (1, .int v1), (2, .int (b2i v2))]) hx hb dX4_fraction_10 rfl hl (by decide) rfl (fun ls hl => ?_)
    refine lv_iload_n hx hb dX4_fraction_11 rfl (lv_at hl 2 rfl) ?_
    refine lv_istore (lv' := [(4, .int v1), (3, .int (-v0)), (0, .int v0), (1, .int v1), (2, .int (b2i v2))]) hx hb dX4_fraction_12 hl (by decide) rfl (fun ls hl => ?_)
    have w_14 : ∀ (n : Nat) (v3_14 : Int32) (v4_14 : Int32), mX4_fraction_b14 v0 v1 v2 n v3_14 v4_14 = some res → ∀ (ls : Array Slot), lv_has ls 6 [(0, .int v0), (1, .int v1), (2, .int (b2i v2)), (3, .int v3_14), (4, .int v4_14)] → W p l e (RM 0 0) s m args below meth c s.heap [] 0 0 Q (F0 m 14 ls []) := by
      intro n
      induction n with
      | zero =>
        intro v3_14 v4_14 hM
        rw [mX4_fraction_b14] at hM
        cases hM
      | succ n_14 ih_14 =>
        intro v3_14 v4_14 hM ls hl
        rw [mX4_fraction_b14] at hM
        refine lv_iload hx hb dX4_fraction_14 (lv_at hl 4 rfl) ?_
        refine lv_if_eq (tgt := 35) hx hb dX4_fraction_16 (by decide) (fun c16 => ?_) (fun c16 => ?_)
        · have hM := ite_t c16 hM
          refine lv_iload_n hx hb dX4_fraction_35 rfl (lv_at hl 2 rfl) ?_
          refine lv_if_eq (tgt := 45) hx hb dX4_fraction_36 (by decide) (fun c36 => ?_) (fun c36 => ?_)
          · have hM := ite_f (b2i_eq0 c36) hM
            refine lv_iload_n hx hb dX4_fraction_45 rfl (lv_at hl 1 rfl) ?_
            refine lv_iload_n hx hb dX4_fraction_46 rfl (lv_at hl 3 rfl) ?_
            obtain ⟨g47, hM⟩ := dv_e hM
            refine lv_idiv hx hb dX4_fraction_47 g47 ?_
            cases hM
            exact rt _ _ _ dX4_fraction_48 rfl
          · have hM := ite_t (b2i_ne0 c36) hM
            refine lv_iload_n hx hb dX4_fraction_39 rfl (lv_at hl 0 rfl) ?_
            refine lv_iload_n hx hb dX4_fraction_40 rfl (lv_at hl 3 rfl) ?_
            obtain ⟨g41, hM⟩ := dv_e hM
            refine lv_idiv hx hb dX4_fraction_41 g41 ?_
            refine lv_goto (tgt := 48) hx hb dX4_fraction_42 (by decide) ?_
            cases hM
            exact rt _ _ _ dX4_fraction_48 rfl
        · have hM := ite_f c16 hM
          refine lv_iload_n hx hb dX4_fraction_19 rfl (lv_at hl 3 rfl) ?_
          refine lv_iload hx hb dX4_fraction_20 (lv_at hl 4 rfl) ?_
          obtain ⟨g22, hM⟩ := rmd_e hM
          refine lv_irem hx hb dX4_fraction_22 g22 ?_
          refine lv_istore (lv' := [(5, .int (v3_14 - v3_14 / v4_14 * v4_14)), (0, .int v0), (1, .int v1), (2, .int (b2i v2)), (3, .int v3_14), (4, .int v4_14)]) hx hb dX4_fraction_23 hl (by decide) rfl (fun ls hl => ?_)
          refine lv_iload hx hb dX4_fraction_25 (lv_at hl 5 rfl) ?_
          refine lv_istore_n (lv' := [(3, .int v4_14), (5, .int (v3_14 - v3_14 / v4_14 * v4_14)), (0, .int v0), (1, .int v1), (2, .int (b2i v2)), (4, .int v4_14)]) hx hb dX4_fraction_27 rfl hl (by decide) rfl (fun ls hl => ?_)
          refine lv_iload hx hb dX4_fraction_28 (lv_at hl 1 rfl) ?_
          refine lv_istore (lv' := [(4, .int (v3_14 - v3_14 / v4_14 * v4_14)), (3, .int v4_14), (5, .int (v3_14 - v3_14 / v4_14 * v4_14)), (0, .int v0), (1, .int v1), (2, .int (b2i v2))]) hx hb dX4_fraction_30 hl (by decide) rfl (fun ls hl => ?_)
          refine lv_goto (tgt := 14) hx hb dX4_fraction_32 (by decide) ?_
          exact ih_14 v4_14 (v3_14 - v3_14 / v4_14 * v4_14) hM ls (lv_sub hl [3, 4, 5, 1, 0] rfl)
    exact w_14 FU (-v0) v1 hM ls (lv_sub hl [2, 3, 4, 1, 0] rfl)
noncomputable def mX4_ones_b4 (v0 : Int32) : Nat → Int32 → Int32 → Option (Int32)
  | 0, _, _ => none
  | n + 1, v1, v2 => (if (8 : Int32) ≤ v2 then some (v1) else bnd (v1 + ((v0 >>> (v2 &&& 31)) &&& (1 : Int32))) (fun z17 => mX4_ones_b4 v0 n z17 (v2 + (1 : Int32))))
noncomputable def mX4_ones (v0 : Int32) : Option (Int32) := mX4_ones_b4 v0 FU (0 : Int32) (0 : Int32)
set_option maxHeartbeats 4000000 in
set_option maxRecDepth 100000 in
theorem okX4_ones {l : Launch} {dC : Nat → ClassId} {dI : Nat → Nat → Nat} {cI cC cZ : ClassId} (v0 : Int32) (res : Int32) (hM : mX4_ones v0 = some res) : Rd l yX4_ones cX4_ones 3 (some .int) 0 0 (dC, dI) cI cC cZ [] [.int v0] (some (.int res)) := by
  refine Rd.ofI (by decide) (Nat.le_of_ble_eq_true rfl) [(0, .int v0)] rfl ?_
  intro p e s m args below meth c ls Q hx hb hml hown hU hE hP rt hl
  have hown : s.vm.findClass RX4 = some m.cls := hown
  unfold mX4_ones at hM
  refine lv_iconst (v := (0 : Int32)) hx hb dX4_ones_0 (by decide) ?_
  refine lv_istore_n (lv' := [(1, .int (0 : Int32)), (0, .int v0)]) hx hb dX4_ones_1 rfl hl (by decide) rfl (fun ls hl => ?_)
  refine lv_iconst (v := (0 : Int32)) hx hb dX4_ones_2 (by decide) ?_
  refine lv_istore_n (lv' := [(2, .int (0 : Int32)), (1, .int (0 : Int32)), (0, .int v0)]) hx hb dX4_ones_3 rfl hl (by decide) rfl (fun ls hl => ?_)
  have w_4 : ∀ (n : Nat) (v1_4 : Int32) (v2_4 : Int32), mX4_ones_b4 v0 n v1_4 v2_4 = some res → ∀ (ls : Array Slot), lv_has ls 3 [(0, .int v0), (1, .int v1_4), (2, .int v2_4)] → W p l e (RM 0 0) s m args below meth c s.heap [] 0 0 Q (F0 m 4 ls []) := by
    intro n
    induction n with
    | zero =>
      intro v1_4 v2_4 hM
      rw [mX4_ones_b4] at hM
      cases hM
    | succ n_4 ih_4 =>
      intro v1_4 v2_4 hM ls hl
      rw [mX4_ones_b4] at hM
      refine lv_iload_n hx hb dX4_ones_4 rfl (lv_at hl 2 rfl) ?_
      refine lv_bipush (v := (8 : Int32)) hx hb dX4_ones_5 (by decide) ?_
      refine lv_icmp_ge (tgt := 24) hx hb dX4_ones_7 (by decide) (fun c7 => ?_) (fun c7 => ?_)
      · have hM := ite_t c7 hM
        refine lv_iload_n hx hb dX4_ones_24 rfl (lv_at hl 1 rfl) ?_
        cases hM
        exact rt _ _ _ dX4_ones_25 rfl
      · have hM := ite_f c7 hM
        refine lv_iload_n hx hb dX4_ones_10 rfl (lv_at hl 1 rfl) ?_
        refine lv_iload_n hx hb dX4_ones_11 rfl (lv_at hl 0 rfl) ?_
        refine lv_iload_n hx hb dX4_ones_12 rfl (lv_at hl 2 rfl) ?_
        refine lv_ishr hx hb dX4_ones_13 ?_
        refine lv_iconst (v := (1 : Int32)) hx hb dX4_ones_14 (by decide) ?_
        refine lv_iand hx hb dX4_ones_15 ?_
        refine lv_iadd hx hb dX4_ones_16 ?_
        obtain ⟨z17, ez17, hM⟩ := bnd_e hM
        rw [← ez17]
        refine lv_istore_n (lv' := [(1, .int z17), (0, .int v0), (2, .int v2_4)]) hx hb dX4_ones_17 rfl hl (by decide) rfl (fun ls hl => ?_)
        refine lv_iinc (v := (v2_4 + (1 : Int32))) (lv' := [(2, .int (v2_4 + (1 : Int32))), (1, .int z17), (0, .int v0)]) hx hb dX4_ones_18 hl (k := 2) rfl rfl (by decide) rfl (fun ls hl => ?_)
        refine lv_goto (tgt := 4) hx hb dX4_ones_21 (by decide) ?_
        exact ih_4 z17 (v2_4 + (1 : Int32)) hM ls (lv_sub hl [2, 1, 0] rfl)
  exact w_4 FU (0 : Int32) (0 : Int32) hM ls (lv_sub hl [2, 1, 0] rfl)
noncomputable def mX4_power_b4 (v0 : Int32) (v1 : Int32) : Nat → Int32 → Int32 → Option (Int32)
  | 0, _, _ => none
  | n + 1, v2, v3 => (if v1 ≤ v3 then some (v2) else mX4_power_b4 v0 v1 n (v2 * v0) (v3 + (1 : Int32)))
noncomputable def mX4_power (v0 : Int32) (v1 : Int32) : Option (Int32) := mX4_power_b4 v0 v1 FU (1 : Int32) (0 : Int32)
set_option maxHeartbeats 4000000 in
set_option maxRecDepth 100000 in
theorem okX4_power {l : Launch} {dC : Nat → ClassId} {dI : Nat → Nat → Nat} {cI cC cZ : ClassId} (v0 : Int32) (v1 : Int32) (res : Int32) (hM : mX4_power v0 v1 = some res) : Rd l yX4_power cX4_power 4 (some .int) 0 0 (dC, dI) cI cC cZ [] [.int v0, .int v1] (some (.int res)) := by
  refine Rd.ofI (by decide) (Nat.le_of_ble_eq_true rfl) [(0, .int v0), (1, .int v1)] rfl ?_
  intro p e s m args below meth c ls Q hx hb hml hown hU hE hP rt hl
  have hown : s.vm.findClass RX4 = some m.cls := hown
  unfold mX4_power at hM
  refine lv_iconst (v := (1 : Int32)) hx hb dX4_power_0 (by decide) ?_
  refine lv_istore_n (lv' := [(2, .int (1 : Int32)), (0, .int v0), (1, .int v1)]) hx hb dX4_power_1 rfl hl (by decide) rfl (fun ls hl => ?_)
  refine lv_iconst (v := (0 : Int32)) hx hb dX4_power_2 (by decide) ?_
  refine lv_istore_n (lv' := [(3, .int (0 : Int32)), (2, .int (1 : Int32)), (0, .int v0), (1, .int v1)]) hx hb dX4_power_3 rfl hl (by decide) rfl (fun ls hl => ?_)
  have w_4 : ∀ (n : Nat) (v2_4 : Int32) (v3_4 : Int32), mX4_power_b4 v0 v1 n v2_4 v3_4 = some res → ∀ (ls : Array Slot), lv_has ls 4 [(0, .int v0), (1, .int v1), (2, .int v2_4), (3, .int v3_4)] → W p l e (RM 0 0) s m args below meth c s.heap [] 0 0 Q (F0 m 4 ls []) := by
    intro n
    induction n with
    | zero =>
      intro v2_4 v3_4 hM
      rw [mX4_power_b4] at hM
      cases hM
    | succ n_4 ih_4 =>
      intro v2_4 v3_4 hM ls hl
      rw [mX4_power_b4] at hM
      refine lv_iload_n hx hb dX4_power_4 rfl (lv_at hl 3 rfl) ?_
      refine lv_iload_n hx hb dX4_power_5 rfl (lv_at hl 1 rfl) ?_
      refine lv_icmp_ge (tgt := 19) hx hb dX4_power_6 (by decide) (fun c6 => ?_) (fun c6 => ?_)
      · have hM := ite_t c6 hM
        refine lv_iload_n hx hb dX4_power_19 rfl (lv_at hl 2 rfl) ?_
        cases hM
        exact rt _ _ _ dX4_power_20 rfl
      · have hM := ite_f c6 hM
        refine lv_iload_n hx hb dX4_power_9 rfl (lv_at hl 2 rfl) ?_
        refine lv_iload_n hx hb dX4_power_10 rfl (lv_at hl 0 rfl) ?_
        refine lv_imul hx hb dX4_power_11 ?_
        refine lv_istore_n (lv' := [(2, .int (v2_4 * v0)), (0, .int v0), (1, .int v1), (3, .int v3_4)]) hx hb dX4_power_12 rfl hl (by decide) rfl (fun ls hl => ?_)
        refine lv_iinc (v := (v3_4 + (1 : Int32))) (lv' := [(3, .int (v3_4 + (1 : Int32))), (2, .int (v2_4 * v0)), (0, .int v0), (1, .int v1)]) hx hb dX4_power_13 hl (k := 3) rfl rfl (by decide) rfl (fun ls hl => ?_)
        refine lv_goto (tgt := 4) hx hb dX4_power_16 (by decide) ?_
        exact ih_4 (v2_4 * v0) (v3_4 + (1 : Int32)) hM ls (lv_sub hl [2, 3, 1, 0] rfl)
  exact w_4 FU (1 : Int32) (0 : Int32) hM ls (lv_sub hl [2, 3, 1, 0] rfl)
noncomputable def mX4_chance_b41 (s_t : Int32 × Int32 × Int32 × Int32 × Int32 × Int32 × Int32 × Int32 × Int32 × Int64) (s_t_now : Nat → Int32) (s_t_paper : Nat → Int32) (v1 : Int32) (v2 : Int32) (v3 : Bool) (v4 : Int32) : Nat → Int32 → Int32 → (Nat → Int32) → Option (Int32 × (Nat → Int32))
  | 0, _, _, _ => none
  | n + 1, v5, v6, s_t_trial => (if ((1 : Int32) <<< (v4 &&& 31)) ≤ v6 then (mX4_power (10 : Int32) v4).bind (fun x135 => (mX4_fraction v5 x135 v3).bind (fun x139 => some (x139, s_t_trial))) else (mX4_copy s_t_now s_t_trial).bind (fun x58 => wr x58 66 (63 : Int32) ((2 : Int32) * v6) (fun x71 => (mX4_ones v6).bind (fun x74 => (mX4_those x71 s_t_paper (2 : Int32)).bind (fun x87 => (mX4_ones x87).bind (fun x90 => (if x90 < v1 then mX4_chance_b41 s_t s_t_now s_t_paper v1 v2 v3 v4 n (v5 + (0 : Int32)) (v6 + (1 : Int32)) x71 else (mX4_power v2 x74).bind (fun x100 => (mX4_power ((10 : Int32) - v2) (v4 - x74)).bind (fun x112 => mX4_chance_b41 s_t s_t_now s_t_paper v1 v2 v3 v4 n (v5 + (x100 * x112)) (v6 + (1 : Int32)) x71)))))))))
noncomputable def mX4_chance (s_t : Int32 × Int32 × Int32 × Int32 × Int32 × Int32 × Int32 × Int32 × Int32 × Int64) (s_t_now : Nat → Int32) (s_t_trial : Nat → Int32) (s_t_paper : Nat → Int32) (v1 : Int32) (v2 : Int32) (v3 : Bool) : Option (Int32 × (Nat → Int32)) := (mX4_in (v1.toInt64) (0 : Int64) (6 : Int64)).bind (fun x6 => (if x6 = true then (mX4_in (v2.toInt64) (0 : Int64) (10 : Int64)).bind (fun x18 => (if x18 = true then mX4_chance_b41 s_t s_t_now s_t_paper v1 v2 v3 (s_t.2.1 - (1 : Int32)) FU (0 : Int32) (0 : Int32) s_t_trial else some ((-2 : Int32), s_t_trial))) else some ((-2 : Int32), s_t_trial)))
set_option maxHeartbeats 4000000 in
set_option maxRecDepth 100000 in
theorem okX4_chance {l : Launch} {dC : Nat → ClassId} {dI : Nat → Nat → Nat} {cI cC cZ : ClassId} (a_t a_t_text a_t_paper a_t_now a_t_trial a_t_diary a_t_kept a_t_isKept a_t_seenAt a_t_worth a_t_readPaper a_t_read : Nat) (s_t : Int32 × Int32 × Int32 × Int32 × Int32 × Int32 × Int32 × Int32 × Int32 × Int64) (s_t_now : Nat → Int32) (s_t_trial : Nat → Int32) (s_t_paper : Nat → Int32) (v1 : Int32) (v2 : Int32) (v3 : Bool) (res : Int32 × (Nat → Int32)) (hM : mX4_chance s_t s_t_now s_t_trial s_t_paper v1 v2 v3 = some res) : Mu l yX4_chance cX4_chance 8 (some .int) 8 192 (dC, dI) cI cC cZ [(a_t, .inr (4, [.ref a_t_text, .int s_t.1, .int s_t.2.1, .ref a_t_paper, .ref a_t_now, .ref a_t_trial, .ref a_t_diary, .int s_t.2.2.1, .int s_t.2.2.2.1, .ref a_t_kept, .ref a_t_isKept, .ref a_t_seenAt, .int s_t.2.2.2.2.1, .long s_t.2.2.2.2.2.2.2.2.2, .ref a_t_worth, .int s_t.2.2.2.2.2.1, .int s_t.2.2.2.2.2.2.1, .ref a_t_readPaper, .ref a_t_read, .int s_t.2.2.2.2.2.2.2.1, .int s_t.2.2.2.2.2.2.2.2.1])), (a_t_now, .inl (cI, 66, .inl s_t_now)), (a_t_trial, .inl (cI, 66, .inl s_t_trial)), (a_t_paper, .inl (cI, 24, .inl s_t_paper))] [(a_t, .inr (4, [.ref a_t_text, .int s_t.1, .int s_t.2.1, .ref a_t_paper, .ref a_t_now, .ref a_t_trial, .ref a_t_diary, .int s_t.2.2.1, .int s_t.2.2.2.1, .ref a_t_kept, .ref a_t_isKept, .ref a_t_seenAt, .int s_t.2.2.2.2.1, .long s_t.2.2.2.2.2.2.2.2.2, .ref a_t_worth, .int s_t.2.2.2.2.2.1, .int s_t.2.2.2.2.2.2.1, .ref a_t_readPaper, .ref a_t_read, .int s_t.2.2.2.2.2.2.2.1, .int s_t.2.2.2.2.2.2.2.2.1])), (a_t_now, .inl (cI, 66, .inl s_t_now)), (a_t_trial, .inl (cI, 66, .inl res.2)), (a_t_paper, .inl (cI, 24, .inl s_t_paper))] [.ref a_t, .int v1, .int v2, .int (b2i v3)] (some (.int res.1)) := by
  refine Mu.ofI (by decide) (Nat.le_of_ble_eq_true rfl) [(0, .ref a_t), (1, .int v1), (2, .int v2), (3, .int (b2i v3))] rfl ?_
  intro p e s m args below meth c ls Q A hx hb hml hown hU hE hP hD hS hA rt hl
  have hown : s.vm.findClass RX4 = some m.cls := hown
  unfold mX4_chance at hM
  refine lv_iload_n hx hb dX4_chance_0 rfl (lv_at hl 1 rfl) ?_
  refine lv_i2l (v := (v1.toInt64)) hx hb dX4_chance_1 rfl ?_
  refine lv_lconst (v := (0 : Int64)) hx hb dX4_chance_2 (by decide) ?_
  refine lv_ldc2 hx hb hown (hU _ u_30_1) dX4_chance_3 ?_
  obtain ⟨x6, h6, hM⟩ := bind_e hM
  refine rdS (As := [.long (v1.toInt64), .long (0 : Int64), .long (6 : Int64)]) (rest := []) (st2 := [.int (b2i x6)]) ⟨hx, hb, hml, hown, hU⟩ hE (okX4_in (v1.toInt64) (0 : Int64) (6 : Int64) x6 h6) lk_X4_50 (hP.sub [] rfl) rfl hl.1 rfl (Nat.le_of_ble_eq_true rfl) ⟨Nat.le_of_ble_eq_true rfl, Nat.le_of_ble_eq_true rfl⟩ dX4_chance_6 ⟨Nat.le_refl _, Nat.le_refl _⟩ rfl ?_
  refine lv_if_eq (tgt := 24) hx hb dX4_chance_9 (by decide) (fun c9 => ?_) (fun c9 => ?_)
  · have hM := ite_f (b2i_eq0 c9) hM
    refine lv_bipush (v := (-2 : Int32)) hx hb dX4_chance_24 (by decide) ?_
    cases hM
    exact rt _ _ _ _ _ hP hS dX4_chance_26 rfl
  · have hM := ite_t (b2i_ne0 c9) hM
    refine lv_iload_n hx hb dX4_chance_12 rfl (lv_at hl 2 rfl) ?_
    refine lv_i2l (v := (v2.toInt64)) hx hb dX4_chance_13 rfl ?_
    refine lv_lconst (v := (0 : Int64)) hx hb dX4_chance_14 (by decide) ?_
    refine lv_ldc2 hx hb hown (hU _ u_30_2) dX4_chance_15 ?_
    obtain ⟨x18, h18, hM⟩ := bind_e hM
    refine rdS (As := [.long (v2.toInt64), .long (0 : Int64), .long (10 : Int64)]) (rest := []) (st2 := [.int (b2i x18)]) ⟨hx, hb, hml, hown, hU⟩ hE (okX4_in (v2.toInt64) (0 : Int64) (10 : Int64) x18 h18) lk_X4_50 (hP.sub [] rfl) rfl hl.1 rfl (Nat.le_of_ble_eq_true rfl) ⟨Nat.le_of_ble_eq_true rfl, Nat.le_of_ble_eq_true rfl⟩ dX4_chance_18 ⟨Nat.le_refl _, Nat.le_refl _⟩ rfl ?_
    refine lv_if_ne (tgt := 27) hx hb dX4_chance_21 (by decide) (fun c21 => ?_) (fun c21 => ?_)
    · have hM := ite_t (b2i_ne0 c21) hM
      refine lv_aload_n hx hb dX4_chance_27 rfl (lv_at hl 0 rfl) ?_
      refine va_get (D := (dC, dI)) (ci := 4) (v := .int s_t.2.1) (C := RX4) (T := TX4) (N := 21) hx hb hU inlX4 hown hE.1 hP 0 rfl rfl 2 (by decide) (hU _ u_5_1) (fun _ h9 => h9) rfl dX4_chance_28 ?_
      refine lv_iconst (v := (1 : Int32)) hx hb dX4_chance_31 (by decide) ?_
      refine lv_isub hx hb dX4_chance_32 ?_
      refine lv_istore (lv' := [(4, .int (s_t.2.1 - (1 : Int32))), (0, .ref a_t), (1, .int v1), (2, .int v2), (3, .int (b2i v3))]) hx hb dX4_chance_33 hl (by decide) rfl (fun ls hl => ?_)
      refine lv_iconst (v := (0 : Int32)) hx hb dX4_chance_35 (by decide) ?_
      refine lv_istore (lv' := [(5, .int (0 : Int32)), (4, .int (s_t.2.1 - (1 : Int32))), (0, .ref a_t), (1, .int v1), (2, .int v2), (3, .int (b2i v3))]) hx hb dX4_chance_36 hl (by decide) rfl (fun ls hl => ?_)
      refine lv_iconst (v := (0 : Int32)) hx hb dX4_chance_38 (by decide) ?_
      refine lv_istore (lv' := [(6, .int (0 : Int32)), (5, .int (0 : Int32)), (4, .int (s_t.2.1 - (1 : Int32))), (0, .ref a_t), (1, .int v1), (2, .int v2), (3, .int (b2i v3))]) hx hb dX4_chance_39 hl (by decide) rfl (fun ls hl => ?_)
      have w_41 : ∀ (n : Nat) (v5_41 : Int32) (v6_41 : Int32) (s_t_trial_41 : Nat → Int32), mX4_chance_b41 s_t s_t_now s_t_paper v1 v2 v3 (s_t.2.1 - (1 : Int32)) n v5_41 v6_41 s_t_trial_41 = some res → ∀ (ls : Array Slot) (H : Heap) (locs : List Loc), va_P (dC, dI) vwCl [(a_t, .inr (4, [.ref a_t_text, .int s_t.1, .int s_t.2.1, .ref a_t_paper, .ref a_t_now, .ref a_t_trial, .ref a_t_diary, .int s_t.2.2.1, .int s_t.2.2.2.1, .ref a_t_kept, .ref a_t_isKept, .ref a_t_seenAt, .int s_t.2.2.2.2.1, .long s_t.2.2.2.2.2.2.2.2.2, .ref a_t_worth, .int s_t.2.2.2.2.2.1, .int s_t.2.2.2.2.2.2.1, .ref a_t_readPaper, .ref a_t_read, .int s_t.2.2.2.2.2.2.2.1, .int s_t.2.2.2.2.2.2.2.2.1])), (a_t_now, .inl (cI, 66, .inl s_t_now)), (a_t_trial, .inl (cI, 66, .inl s_t_trial_41)), (a_t_paper, .inl (cI, 24, .inl s_t_paper))] H → va_D A [(a_t, .inr (4, [.ref a_t_text, .int s_t.1, .int s_t.2.1, .ref a_t_paper, .ref a_t_now, .ref a_t_trial, .ref a_t_diary, .int s_t.2.2.1, .int s_t.2.2.2.1, .ref a_t_kept, .ref a_t_isKept, .ref a_t_seenAt, .int s_t.2.2.2.2.1, .long s_t.2.2.2.2.2.2.2.2.2, .ref a_t_worth, .int s_t.2.2.2.2.2.1, .int s_t.2.2.2.2.2.2.1, .ref a_t_readPaper, .ref a_t_read, .int s_t.2.2.2.2.2.2.2.1, .int s_t.2.2.2.2.2.2.2.2.1])), (a_t_now, .inl (cI, 66, .inl s_t_now)), (a_t_trial, .inl (cI, 66, .inl s_t_trial_41)), (a_t_paper, .inl (cI, 24, .inl s_t_paper))] → va_S A s.heap H locs → lv_has ls 8 [(0, .ref a_t), (1, .int v1), (2, .int v2), (3, .int (b2i v3)), (4, .int (s_t.2.1 - (1 : Int32))), (5, .int v5_41), (6, .int v6_41)] → W p l e (RM 8 192) s m args below meth c H locs 0 0 Q (F0 m 41 ls []) := by
        intro n
        induction n with
        | zero =>
          intro v5_41 v6_41 s_t_trial_41 hM
          rw [mX4_chance_b41] at hM
          cases hM
        | succ n_41 ih_41 =>
          intro v5_41 v6_41 s_t_trial_41 hM ls H locs hP hD hS hl
          rw [mX4_chance_b41] at hM
          refine lv_iload hx hb dX4_chance_41 (lv_at hl 6 rfl) ?_
          refine lv_iconst (v := (1 : Int32)) hx hb dX4_chance_43 (by decide) ?_
          refine lv_iload hx hb dX4_chance_44 (lv_at hl 4 rfl) ?_
          refine lv_ishl hx hb dX4_chance_46 ?_
          refine lv_icmp_ge (tgt := 129) hx hb dX4_chance_47 (by decide) (fun c47 => ?_) (fun c47 => ?_)
          · have hM := ite_t c47 hM
            refine lv_iload hx hb dX4_chance_129 (lv_at hl 5 rfl) ?_
            refine lv_bipush (v := (10 : Int32)) hx hb dX4_chance_131 (by decide) ?_
            refine lv_iload hx hb dX4_chance_133 (lv_at hl 4 rfl) ?_
            obtain ⟨x135, h135, hM⟩ := bind_e hM
            refine rdS (As := [.int (10 : Int32), .int (s_t.2.1 - (1 : Int32))]) (rest := [.int v5_41]) (st2 := [.int x135, .int v5_41]) ⟨hx, hb, hml, hown, hU⟩ hE (okX4_power (10 : Int32) (s_t.2.1 - (1 : Int32)) x135 h135) lk_X4_233 (hP.sub [] rfl) rfl hl.1 rfl (Nat.le_of_ble_eq_true rfl) ⟨Nat.le_of_ble_eq_true rfl, Nat.le_of_ble_eq_true rfl⟩ dX4_chance_135 ⟨Nat.le_refl _, Nat.le_refl _⟩ rfl ?_
            refine lv_iload_n hx hb dX4_chance_138 rfl (lv_at hl 3 rfl) ?_
            obtain ⟨x139, h139, hM⟩ := bind_e hM
            refine rdS (As := [.int v5_41, .int x135, .int (b2i v3)]) (rest := []) (st2 := [.int x139]) ⟨hx, hb, hml, hown, hU⟩ hE (okX4_fraction v5_41 x135 v3 x139 h139) lk_X4_225 (hP.sub [] rfl) rfl hl.1 rfl (Nat.le_of_ble_eq_true rfl) ⟨Nat.le_of_ble_eq_true rfl, Nat.le_of_ble_eq_true rfl⟩ dX4_chance_139 ⟨Nat.le_refl _, Nat.le_refl _⟩ rfl ?_
            cases hM
            exact rt _ _ _ _ _ hP hS dX4_chance_142 rfl
          · have hM := ite_f c47 hM
            refine lv_aload_n hx hb dX4_chance_50 rfl (lv_at hl 0 rfl) ?_
            refine va_get (D := (dC, dI)) (ci := 4) (v := .ref a_t_now) (C := RX4) (T := TX4) (N := 21) hx hb hU inlX4 hown hE.1 hP 0 rfl rfl 4 (by decide) (hU _ u_4_15) (fun _ h9 => h9) rfl dX4_chance_51 ?_
            refine lv_aload_n hx hb dX4_chance_54 rfl (lv_at hl 0 rfl) ?_
            refine va_get (D := (dC, dI)) (ci := 4) (v := .ref a_t_trial) (C := RX4) (T := TX4) (N := 21) hx hb hU inlX4 hown hE.1 hP 0 rfl rfl 5 (by decide) (hU _ u_4_16) (fun _ h9 => h9) rfl dX4_chance_55 ?_
            obtain ⟨x58, h58, hM⟩ := bind_e hM
            refine muS (As := [.ref a_t_now, .ref a_t_trial]) (rest := []) (st2 := []) (nw := [(a_t, .inr (4, [.ref a_t_text, .int s_t.1, .int s_t.2.1, .ref a_t_paper, .ref a_t_now, .ref a_t_trial, .ref a_t_diary, .int s_t.2.2.1, .int s_t.2.2.2.1, .ref a_t_kept, .ref a_t_isKept, .ref a_t_seenAt, .int s_t.2.2.2.2.1, .long s_t.2.2.2.2.2.2.2.2.2, .ref a_t_worth, .int s_t.2.2.2.2.2.1, .int s_t.2.2.2.2.2.2.1, .ref a_t_readPaper, .ref a_t_read, .int s_t.2.2.2.2.2.2.2.1, .int s_t.2.2.2.2.2.2.2.2.1])), (a_t_now, .inl (cI, 66, .inl s_t_now)), (a_t_trial, .inl (cI, 66, .inl x58)), (a_t_paper, .inl (cI, 24, .inl s_t_paper))]) ⟨hx, hb, hml, hown, hU⟩ hE (okX4_copy a_t_now a_t_trial s_t_now s_t_trial_41 x58 h58) lk_X4_113 hP hD hS hA [1, 2] rfl rfl rfl rfl hl.1 rfl (Nat.le_of_ble_eq_true rfl) ⟨Nat.le_of_ble_eq_true rfl, Nat.le_of_ble_eq_true rfl⟩ dX4_chance_58 ⟨Nat.le_refl _, Nat.le_refl _⟩ rfl rfl rfl rfl (fun H locs hP hD hS => ?_)
            refine lv_aload_n hx hb dX4_chance_61 rfl (lv_at hl 0 rfl) ?_
            refine va_get (D := (dC, dI)) (ci := 4) (v := .ref a_t_trial) (C := RX4) (T := TX4) (N := 21) hx hb hU inlX4 hown hE.1 hP 0 rfl rfl 5 (by decide) (hU _ u_4_16) (fun _ h9 => h9) rfl dX4_chance_62 ?_
            refine lv_bipush (v := (63 : Int32)) hx hb dX4_chance_65 (by decide) ?_
            refine lv_iconst (v := (2 : Int32)) hx hb dX4_chance_67 (by decide) ?_
            refine lv_iload hx hb dX4_chance_68 (lv_at hl 6 rfl) ?_
            refine lv_imul hx hb dX4_chance_70 ?_
            obtain ⟨g71, hM⟩ := wr_e hM
            refine va_iast hx hb hE.1 hP hD hS 2 0 rfl rfl g71 dX4_chance_71 (fun H locs hP hD hS => ?_)
            have hP : va_P (dC, dI) vwCl [(a_t, .inr (4, [.ref a_t_text, .int s_t.1, .int s_t.2.1, .ref a_t_paper, .ref a_t_now, .ref a_t_trial, .ref a_t_diary, .int s_t.2.2.1, .int s_t.2.2.2.1, .ref a_t_kept, .ref a_t_isKept, .ref a_t_seenAt, .int s_t.2.2.2.2.1, .long s_t.2.2.2.2.2.2.2.2.2, .ref a_t_worth, .int s_t.2.2.2.2.2.1, .int s_t.2.2.2.2.2.2.1, .ref a_t_readPaper, .ref a_t_read, .int s_t.2.2.2.2.2.2.2.1, .int s_t.2.2.2.2.2.2.2.2.1])), (a_t_now, .inl (cI, 66, .inl s_t_now)), (a_t_trial, .inl (cI, 66, .inl (upd x58 (63 : Int32).toNatClampNeg ((2 : Int32) * v6_41)))), (a_t_paper, .inl (cI, 24, .inl s_t_paper))] H := hP
            have hD : va_D A [(a_t, .inr (4, [.ref a_t_text, .int s_t.1, .int s_t.2.1, .ref a_t_paper, .ref a_t_now, .ref a_t_trial, .ref a_t_diary, .int s_t.2.2.1, .int s_t.2.2.2.1, .ref a_t_kept, .ref a_t_isKept, .ref a_t_seenAt, .int s_t.2.2.2.2.1, .long s_t.2.2.2.2.2.2.2.2.2, .ref a_t_worth, .int s_t.2.2.2.2.2.1, .int s_t.2.2.2.2.2.2.1, .ref a_t_readPaper, .ref a_t_read, .int s_t.2.2.2.2.2.2.2.1, .int s_t.2.2.2.2.2.2.2.2.1])), (a_t_now, .inl (cI, 66, .inl s_t_now)), (a_t_trial, .inl (cI, 66, .inl (upd x58 (63 : Int32).toNatClampNeg ((2 : Int32) * v6_41)))), (a_t_paper, .inl (cI, 24, .inl s_t_paper))] := hD
            refine lv_iload hx hb dX4_chance_72 (lv_at hl 6 rfl) ?_
            obtain ⟨x74, h74, hM⟩ := bind_e hM
            refine rdS (As := [.int v6_41]) (rest := []) (st2 := [.int x74]) ⟨hx, hb, hml, hown, hU⟩ hE (okX4_ones v6_41 x74 h74) lk_X4_219 (hP.sub [] rfl) rfl hl.1 rfl (Nat.le_of_ble_eq_true rfl) ⟨Nat.le_of_ble_eq_true rfl, Nat.le_of_ble_eq_true rfl⟩ dX4_chance_74 ⟨Nat.le_refl _, Nat.le_refl _⟩ rfl ?_
            refine lv_istore (lv' := [(7, .int x74), (0, .ref a_t), (1, .int v1), (2, .int v2), (3, .int (b2i v3)), (4, .int (s_t.2.1 - (1 : Int32))), (5, .int v5_41), (6, .int v6_41)]) hx hb dX4_chance_77 hl (by decide) rfl (fun ls hl => ?_)
            refine lv_iload hx hb dX4_chance_79 (lv_at hl 6 rfl) ?_
            refine lv_aload_n hx hb dX4_chance_81 rfl (lv_at hl 1 rfl) ?_
            refine lv_aload_n hx hb dX4_chance_82 rfl (lv_at hl 1 rfl) ?_
            refine va_get (D := (dC, dI)) (ci := 4) (v := .ref a_t_trial) (C := RX4) (T := TX4) (N := 21) hx hb hU inlX4 hown hE.1 hP 0 rfl rfl 5 (by decide) (hU _ u_4_16) (fun _ h9 => h9) rfl dX4_chance_83 ?_
            refine lv_iconst (v := (2 : Int32)) hx hb dX4_chance_86 (by decide) ?_
            obtain ⟨x87, h87, hM⟩ := bind_e hM
            refine rdV (As := [.ref a_t_trial, .int (2 : Int32)]) (rest := [.int v5_41]) (st2 := [.int x87, .int v5_41]) ⟨hx, hb, hml, hown, hU⟩ hE (okX4_those a_t a_t_text a_t_paper a_t_now a_t_trial a_t_diary a_t_kept a_t_isKept a_t_seenAt a_t_worth a_t_readPaper a_t_read a_t_trial s_t (upd x58 (63 : Int32).toNatClampNeg ((2 : Int32) * v6_41)) s_t_paper (2 : Int32) x87 h87) lk_X4_156 (hP.sub [0, 2, 3] rfl) rfl rfl rfl hl.1 rfl (Nat.le_of_ble_eq_true rfl) ⟨Nat.le_of_ble_eq_true rfl, Nat.le_of_ble_eq_true rfl⟩ dX4_chance_87 ⟨Nat.le_refl _, Nat.le_refl _⟩ rfl ?_
            obtain ⟨x90, h90, hM⟩ := bind_e hM
            refine rdS (As := [.int x87]) (rest := [.int v5_41]) (st2 := [.int x90, .int v5_41]) ⟨hx, hb, hml, hown, hU⟩ hE (okX4_ones x87 x90 h90) lk_X4_219 (hP.sub [] rfl) rfl hl.1 rfl (Nat.le_of_ble_eq_true rfl) ⟨Nat.le_of_ble_eq_true rfl, Nat.le_of_ble_eq_true rfl⟩ dX4_chance_90 ⟨Nat.le_refl _, Nat.le_refl _⟩ rfl ?_
            refine lv_iload_n hx hb dX4_chance_93 rfl (lv_at hl 2 rfl) ?_
            refine lv_icmp_lt (tgt := 119) hx hb dX4_chance_94 (by decide) (fun c94 => ?_) (fun c94 => ?_)
            · have hM := ite_t c94 hM
              refine lv_iconst (v := (0 : Int32)) hx hb dX4_chance_119 (by decide) ?_
              refine lv_iadd hx hb dX4_chance_120 ?_
              refine lv_istore (lv' := [(5, .int (v5_41 + (0 : Int32))), (7, .int x74), (0, .ref a_t), (1, .int v1), (2, .int v2), (3, .int (b2i v3)), (4, .int (s_t.2.1 - (1 : Int32))), (6, .int v6_41)]) hx hb dX4_chance_121 hl (by decide) rfl (fun ls hl => ?_)
              refine lv_iinc (v := (v6_41 + (1 : Int32))) (lv' := [(6, .int (v6_41 + (1 : Int32))), (5, .int (v5_41 + (0 : Int32))), (7, .int x74), (0, .ref a_t), (1, .int v1), (2, .int v2), (3, .int (b2i v3)), (4, .int (s_t.2.1 - (1 : Int32)))]) hx hb dX4_chance_123 hl (k := 7) rfl rfl (by decide) rfl (fun ls hl => ?_)
              refine lv_goto (tgt := 41) hx hb dX4_chance_126 (by decide) ?_
              exact ih_41 (v5_41 + (0 : Int32)) (v6_41 + (1 : Int32)) (upd x58 (63 : Int32).toNatClampNeg ((2 : Int32) * v6_41)) hM ls _ _ hP hD hS (lv_sub hl [3, 4, 5, 6, 7, 1, 0] rfl)
            · have hM := ite_f c94 hM
              refine lv_iload_n hx hb dX4_chance_97 rfl (lv_at hl 3 rfl) ?_
              refine lv_iload hx hb dX4_chance_98 (lv_at hl 0 rfl) ?_
              obtain ⟨x100, h100, hM⟩ := bind_e hM
              refine rdS (As := [.int v2, .int x74]) (rest := [.int v5_41]) (st2 := [.int x100, .int v5_41]) ⟨hx, hb, hml, hown, hU⟩ hE (okX4_power v2 x74 x100 h100) lk_X4_233 (hP.sub [] rfl) rfl hl.1 rfl (Nat.le_of_ble_eq_true rfl) ⟨Nat.le_of_ble_eq_true rfl, Nat.le_of_ble_eq_true rfl⟩ dX4_chance_100 ⟨Nat.le_refl _, Nat.le_refl _⟩ rfl ?_
              refine lv_bipush (v := (10 : Int32)) hx hb dX4_chance_103 (by decide) ?_
              refine lv_iload_n hx hb dX4_chance_105 rfl (lv_at hl 3 rfl) ?_
              refine lv_isub hx hb dX4_chance_106 ?_
              refine lv_iload hx hb dX4_chance_107 (lv_at hl 5 rfl) ?_
              refine lv_iload hx hb dX4_chance_109 (lv_at hl 0 rfl) ?_
              refine lv_isub hx hb dX4_chance_111 ?_
              obtain ⟨x112, h112, hM⟩ := bind_e hM
              refine rdS (As := [.int ((10 : Int32) - v2), .int ((s_t.2.1 - (1 : Int32)) - x74)]) (rest := [.int x100, .int v5_41]) (st2 := [.int x112, .int x100, .int v5_41]) ⟨hx, hb, hml, hown, hU⟩ hE (okX4_power ((10 : Int32) - v2) ((s_t.2.1 - (1 : Int32)) - x74) x112 h112) lk_X4_233 (hP.sub [] rfl) rfl hl.1 rfl (Nat.le_of_ble_eq_true rfl) ⟨Nat.le_of_ble_eq_true rfl, Nat.le_of_ble_eq_true rfl⟩ dX4_chance_112 ⟨Nat.le_refl _, Nat.le_refl _⟩ rfl ?_
              refine lv_imul hx hb dX4_chance_115 ?_
              refine lv_goto (tgt := 120) hx hb dX4_chance_116 (by decide) ?_
              refine lv_iadd hx hb dX4_chance_120 ?_
              refine lv_istore (lv' := [(5, .int (v5_41 + (x100 * x112))), (7, .int x74), (0, .ref a_t), (1, .int v1), (2, .int v2), (3, .int (b2i v3)), (4, .int (s_t.2.1 - (1 : Int32))), (6, .int v6_41)]) hx hb dX4_chance_121 hl (by decide) rfl (fun ls hl => ?_)
              refine lv_iinc (v := (v6_41 + (1 : Int32))) (lv' := [(6, .int (v6_41 + (1 : Int32))), (5, .int (v5_41 + (x100 * x112))), (7, .int x74), (0, .ref a_t), (1, .int v1), (2, .int v2), (3, .int (b2i v3)), (4, .int (s_t.2.1 - (1 : Int32)))]) hx hb dX4_chance_123 hl (k := 7) rfl rfl (by decide) rfl (fun ls hl => ?_)
              refine lv_goto (tgt := 41) hx hb dX4_chance_126 (by decide) ?_
              exact ih_41 (v5_41 + (x100 * x112)) (v6_41 + (1 : Int32)) (upd x58 (63 : Int32).toNatClampNeg ((2 : Int32) * v6_41)) hM ls _ _ hP hD hS (lv_sub hl [3, 4, 5, 6, 7, 1, 0] rfl)
      exact w_41 FU (0 : Int32) (0 : Int32) s_t_trial hM ls _ _ hP hD hS (lv_sub hl [3, 4, 5, 6, 2, 1, 0] rfl)
    · have hM := ite_f (b2i_eq0 c21) hM
      refine lv_bipush (v := (-2 : Int32)) hx hb dX4_chance_24 (by decide) ?_
      cases hM
      exact rt _ _ _ _ _ hP hS dX4_chance_26 rfl
noncomputable def mX4_drawn_b19 (s_t_now : Nat → Int32) (s_t_paper : Nat → Int32) (v1 : Int32) : Nat → Int32 → Int32 → Int32 × Int32 × Int32 × Int32 × Int32 × Int32 × Int32 × Int32 × Int32 × Int64 → Option (Int32 × (Int32 × Int32 × Int32 × Int32 × Int32 × Int32 × Int32 × Int32 × Int32 × Int64))
  | 0, _, _, _ => none
  | n + 1, v2, v3, s_t => (if v1 ≤ v3 then some (v2, s_t) else bnd ((s_t.2.2.2.2.2.2.2.2.2 * (6364136223846793005 : Int64)) + (1442695040888963407 : Int64)) (fun z37 => bnd (((z37.toUInt64 >>> ((33 : Int32).toInt64.toUInt64 &&& Int64.toUInt64 63)).toInt64).toInt32) (fun z48 => bnd ((z48 / (6 : Int32)) - (z48 / (6 : Int32)) / (32 : Int32) * (32 : Int32)) (fun z65 => (mX4_sizeOf (z48 - z48 / (6 : Int32) * (6 : Int32))).bind (fun x79 => rmd z65 x79 (fun x82 => (mX4_stateOf s_t_now s_t_paper (z65 - x82) (z48 - z48 / (6 : Int32) * (6 : Int32)) ((z48 / (192 : Int32)) - (z48 / (192 : Int32)) / (6 : Int32) * (6 : Int32))).bind (fun x95 => mX4_drawn_b19 s_t_now s_t_paper v1 n (v2 + x95) (v3 + (1 : Int32)) (s_t.1, s_t.2.1, s_t.2.2.1, s_t.2.2.2.1, s_t.2.2.2.2.1, s_t.2.2.2.2.2.1, s_t.2.2.2.2.2.2.1, s_t.2.2.2.2.2.2.2.1, s_t.2.2.2.2.2.2.2.2.1, z37))))))))
noncomputable def mX4_drawn (s_t : Int32 × Int32 × Int32 × Int32 × Int32 × Int32 × Int32 × Int32 × Int32 × Int64) (s_t_now : Nat → Int32) (s_t_paper : Nat → Int32) (v1 : Int32) : Option (Int32 × (Int32 × Int32 × Int32 × Int32 × Int32 × Int32 × Int32 × Int32 × Int32 × Int64)) := (mX4_in (v1.toInt64) (1 : Int64) (40 : Int64)).bind (fun x6 => (if x6 = true then mX4_drawn_b19 s_t_now s_t_paper v1 FU (0 : Int32) (0 : Int32) s_t else some ((-2 : Int32), s_t)))
set_option maxHeartbeats 4000000 in
set_option maxRecDepth 100000 in
theorem okX4_drawn {l : Launch} {dC : Nat → ClassId} {dI : Nat → Nat → Nat} {cI cC cZ : ClassId} (a_t a_t_text a_t_paper a_t_now a_t_trial a_t_diary a_t_kept a_t_isKept a_t_seenAt a_t_worth a_t_readPaper a_t_read : Nat) (s_t : Int32 × Int32 × Int32 × Int32 × Int32 × Int32 × Int32 × Int32 × Int32 × Int64) (s_t_now : Nat → Int32) (s_t_paper : Nat → Int32) (v1 : Int32) (res : Int32 × (Int32 × Int32 × Int32 × Int32 × Int32 × Int32 × Int32 × Int32 × Int32 × Int64)) (hM : mX4_drawn s_t s_t_now s_t_paper v1 = some res) : Mu l yX4_drawn cX4_drawn 7 (some .int) 6 145 (dC, dI) cI cC cZ [(a_t, .inr (4, [.ref a_t_text, .int s_t.1, .int s_t.2.1, .ref a_t_paper, .ref a_t_now, .ref a_t_trial, .ref a_t_diary, .int s_t.2.2.1, .int s_t.2.2.2.1, .ref a_t_kept, .ref a_t_isKept, .ref a_t_seenAt, .int s_t.2.2.2.2.1, .long s_t.2.2.2.2.2.2.2.2.2, .ref a_t_worth, .int s_t.2.2.2.2.2.1, .int s_t.2.2.2.2.2.2.1, .ref a_t_readPaper, .ref a_t_read, .int s_t.2.2.2.2.2.2.2.1, .int s_t.2.2.2.2.2.2.2.2.1])), (a_t_now, .inl (cI, 66, .inl s_t_now)), (a_t_paper, .inl (cI, 24, .inl s_t_paper))] [(a_t, .inr (4, [.ref a_t_text, .int res.2.1, .int res.2.2.1, .ref a_t_paper, .ref a_t_now, .ref a_t_trial, .ref a_t_diary, .int res.2.2.2.1, .int res.2.2.2.2.1, .ref a_t_kept, .ref a_t_isKept, .ref a_t_seenAt, .int res.2.2.2.2.2.1, .long res.2.2.2.2.2.2.2.2.2.2, .ref a_t_worth, .int res.2.2.2.2.2.2.1, .int res.2.2.2.2.2.2.2.1, .ref a_t_readPaper, .ref a_t_read, .int res.2.2.2.2.2.2.2.2.1, .int res.2.2.2.2.2.2.2.2.2.1])), (a_t_now, .inl (cI, 66, .inl s_t_now)), (a_t_paper, .inl (cI, 24, .inl s_t_paper))] [.ref a_t, .int v1] (some (.int res.1)) := by
  refine Mu.ofI (by decide) (Nat.le_of_ble_eq_true rfl) [(0, .ref a_t), (1, .int v1)] rfl ?_
  intro p e s m args below meth c ls Q A hx hb hml hown hU hE hP hD hS hA rt hl
  have hown : s.vm.findClass RX4 = some m.cls := hown
  unfold mX4_drawn at hM
  refine lv_iload_n hx hb dX4_drawn_0 rfl (lv_at hl 1 rfl) ?_
  refine lv_i2l (v := (v1.toInt64)) hx hb dX4_drawn_1 rfl ?_
  refine lv_lconst (v := (1 : Int64)) hx hb dX4_drawn_2 (by decide) ?_
  refine lv_ldc2 hx hb hown (hU _ u_31_2) dX4_drawn_3 ?_
  obtain ⟨x6, h6, hM⟩ := bind_e hM
  refine rdS (As := [.long (v1.toInt64), .long (1 : Int64), .long (40 : Int64)]) (rest := []) (st2 := [.int (b2i x6)]) ⟨hx, hb, hml, hown, hU⟩ hE (okX4_in (v1.toInt64) (1 : Int64) (40 : Int64) x6 h6) lk_X4_50 (hP.sub [] rfl) rfl hl.1 rfl (Nat.le_of_ble_eq_true rfl) ⟨Nat.le_of_ble_eq_true rfl, Nat.le_of_ble_eq_true rfl⟩ dX4_drawn_6 ⟨Nat.le_refl _, Nat.le_refl _⟩ rfl ?_
  refine lv_if_ne (tgt := 15) hx hb dX4_drawn_9 (by decide) (fun c9 => ?_) (fun c9 => ?_)
  · have hM := ite_t (b2i_ne0 c9) hM
    refine lv_iconst (v := (0 : Int32)) hx hb dX4_drawn_15 (by decide) ?_
    refine lv_istore_n (lv' := [(2, .int (0 : Int32)), (0, .ref a_t), (1, .int v1)]) hx hb dX4_drawn_16 rfl hl (by decide) rfl (fun ls hl => ?_)
    refine lv_iconst (v := (0 : Int32)) hx hb dX4_drawn_17 (by decide) ?_
    refine lv_istore_n (lv' := [(3, .int (0 : Int32)), (2, .int (0 : Int32)), (0, .ref a_t), (1, .int v1)]) hx hb dX4_drawn_18 rfl hl (by decide) rfl (fun ls hl => ?_)
    have w_19 : ∀ (n : Nat) (v2_19 : Int32) (v3_19 : Int32) (s_t_19 : Int32 × Int32 × Int32 × Int32 × Int32 × Int32 × Int32 × Int32 × Int32 × Int64), mX4_drawn_b19 s_t_now s_t_paper v1 n v2_19 v3_19 s_t_19 = some res → ∀ (ls : Array Slot) (H : Heap) (locs : List Loc), va_P (dC, dI) vwCl [(a_t, .inr (4, [.ref a_t_text, .int s_t_19.1, .int s_t_19.2.1, .ref a_t_paper, .ref a_t_now, .ref a_t_trial, .ref a_t_diary, .int s_t_19.2.2.1, .int s_t_19.2.2.2.1, .ref a_t_kept, .ref a_t_isKept, .ref a_t_seenAt, .int s_t_19.2.2.2.2.1, .long s_t_19.2.2.2.2.2.2.2.2.2, .ref a_t_worth, .int s_t_19.2.2.2.2.2.1, .int s_t_19.2.2.2.2.2.2.1, .ref a_t_readPaper, .ref a_t_read, .int s_t_19.2.2.2.2.2.2.2.1, .int s_t_19.2.2.2.2.2.2.2.2.1])), (a_t_now, .inl (cI, 66, .inl s_t_now)), (a_t_paper, .inl (cI, 24, .inl s_t_paper))] H → va_D A [(a_t, .inr (4, [.ref a_t_text, .int s_t_19.1, .int s_t_19.2.1, .ref a_t_paper, .ref a_t_now, .ref a_t_trial, .ref a_t_diary, .int s_t_19.2.2.1, .int s_t_19.2.2.2.1, .ref a_t_kept, .ref a_t_isKept, .ref a_t_seenAt, .int s_t_19.2.2.2.2.1, .long s_t_19.2.2.2.2.2.2.2.2.2, .ref a_t_worth, .int s_t_19.2.2.2.2.2.1, .int s_t_19.2.2.2.2.2.2.1, .ref a_t_readPaper, .ref a_t_read, .int s_t_19.2.2.2.2.2.2.2.1, .int s_t_19.2.2.2.2.2.2.2.2.1])), (a_t_now, .inl (cI, 66, .inl s_t_now)), (a_t_paper, .inl (cI, 24, .inl s_t_paper))] → va_S A s.heap H locs → lv_has ls 7 [(0, .ref a_t), (1, .int v1), (2, .int v2_19), (3, .int v3_19)] → W p l e (RM 6 145) s m args below meth c H locs 0 0 Q (F0 m 19 ls []) := by
      intro n
      induction n with
      | zero =>
        intro v2_19 v3_19 s_t_19 hM
        rw [mX4_drawn_b19] at hM
        cases hM
      | succ n_19 ih_19 =>
        intro v2_19 v3_19 s_t_19 hM ls H locs hP hD hS hl
        rw [mX4_drawn_b19] at hM
        refine lv_iload_n hx hb dX4_drawn_19 rfl (lv_at hl 3 rfl) ?_
        refine lv_iload_n hx hb dX4_drawn_20 rfl (lv_at hl 1 rfl) ?_
        refine lv_icmp_ge (tgt := 106) hx hb dX4_drawn_21 (by decide) (fun c21 => ?_) (fun c21 => ?_)
        · have hM := ite_t c21 hM
          refine lv_iload_n hx hb dX4_drawn_106 rfl (lv_at hl 2 rfl) ?_
          cases hM
          exact rt _ _ _ _ _ hP hS dX4_drawn_107 rfl
        · have hM := ite_f c21 hM
          refine lv_aload_n hx hb dX4_drawn_24 rfl (lv_at hl 0 rfl) ?_
          refine lv_aload_n hx hb dX4_drawn_25 rfl (lv_at hl 0 rfl) ?_
          refine va_get (D := (dC, dI)) (ci := 4) (v := .long s_t_19.2.2.2.2.2.2.2.2.2) (C := RX4) (T := TX4) (N := 21) hx hb hU inlX4 hown hE.1 hP 0 rfl rfl 13 (by decide) (hU _ u_30_15) (fun _ h9 => h9) rfl dX4_drawn_26 ?_
          refine lv_ldc2 hx hb hown (hU _ u_31_3) dX4_drawn_29 ?_
          refine lv_lmul hx hb dX4_drawn_32 ?_
          refine lv_ldc2 hx hb hown (hU _ u_31_4) dX4_drawn_33 ?_
          refine lv_ladd hx hb dX4_drawn_36 ?_
          obtain ⟨z37, ez37, hM⟩ := bnd_e hM
          rw [← ez37]
          refine va_put (D := (dC, dI)) (ci := 4) (v := .long z37) (ty := .long) (C := RX4) (T := TX4) (N := 21) hx hb hU inlX4 tyX4 tyX4_ok nmX4 hown hE.1 hP hD hS 0 rfl rfl 13 (by decide) (hU _ u_30_15) (fun _ h9 => h9) rfl (tyX4_ok 13 (by decide)) rfl rfl (Nat.le_of_ble_eq_true rfl) dX4_drawn_37 (fun H locs hP hD hS => ?_)
          have hP : va_P (dC, dI) vwCl [(a_t, .inr (4, [.ref a_t_text, .int s_t_19.1, .int s_t_19.2.1, .ref a_t_paper, .ref a_t_now, .ref a_t_trial, .ref a_t_diary, .int s_t_19.2.2.1, .int s_t_19.2.2.2.1, .ref a_t_kept, .ref a_t_isKept, .ref a_t_seenAt, .int s_t_19.2.2.2.2.1, .long z37, .ref a_t_worth, .int s_t_19.2.2.2.2.2.1, .int s_t_19.2.2.2.2.2.2.1, .ref a_t_readPaper, .ref a_t_read, .int s_t_19.2.2.2.2.2.2.2.1, .int s_t_19.2.2.2.2.2.2.2.2.1])), (a_t_now, .inl (cI, 66, .inl s_t_now)), (a_t_paper, .inl (cI, 24, .inl s_t_paper))] H := hP
          have hD : va_D A [(a_t, .inr (4, [.ref a_t_text, .int s_t_19.1, .int s_t_19.2.1, .ref a_t_paper, .ref a_t_now, .ref a_t_trial, .ref a_t_diary, .int s_t_19.2.2.1, .int s_t_19.2.2.2.1, .ref a_t_kept, .ref a_t_isKept, .ref a_t_seenAt, .int s_t_19.2.2.2.2.1, .long z37, .ref a_t_worth, .int s_t_19.2.2.2.2.2.1, .int s_t_19.2.2.2.2.2.2.1, .ref a_t_readPaper, .ref a_t_read, .int s_t_19.2.2.2.2.2.2.2.1, .int s_t_19.2.2.2.2.2.2.2.2.1])), (a_t_now, .inl (cI, 66, .inl s_t_now)), (a_t_paper, .inl (cI, 24, .inl s_t_paper))] := hD
          refine lv_aload_n hx hb dX4_drawn_40 rfl (lv_at hl 0 rfl) ?_
          refine va_get (D := (dC, dI)) (ci := 4) (v := .long z37) (C := RX4) (T := TX4) (N := 21) hx hb hU inlX4 hown hE.1 hP 0 rfl rfl 13 (by decide) (hU _ u_30_15) (fun _ h9 => h9) rfl dX4_drawn_41 ?_
          refine lv_bipush (v := (33 : Int32)) hx hb dX4_drawn_44 (by decide) ?_
          refine lv_lushr (v := (z37.toUInt64 >>> ((33 : Int32).toInt64.toUInt64 &&& Int64.toUInt64 63)).toInt64) hx hb dX4_drawn_46 rfl ?_
          refine lv_l2i (v := (((z37.toUInt64 >>> ((33 : Int32).toInt64.toUInt64 &&& Int64.toUInt64 63)).toInt64).toInt32)) hx hb dX4_drawn_47 rfl ?_
          obtain ⟨z48, ez48, hM⟩ := bnd_e hM
          rw [← ez48]
          refine lv_istore (lv' := [(4, .int z48), (0, .ref a_t), (1, .int v1), (2, .int v2_19), (3, .int v3_19)]) hx hb dX4_drawn_48 hl (by decide) rfl (fun ls hl => ?_)
          refine lv_iload hx hb dX4_drawn_50 (lv_at hl 0 rfl) ?_
          refine lv_bipush (v := (6 : Int32)) hx hb dX4_drawn_52 (by decide) ?_
          refine lv_irem hx hb dX4_drawn_54 (by decide) ?_
          refine lv_istore (lv' := [(5, .int (z48 - z48 / (6 : Int32) * (6 : Int32))), (4, .int z48), (0, .ref a_t), (1, .int v1), (2, .int v2_19), (3, .int v3_19)]) hx hb dX4_drawn_55 hl (by decide) rfl (fun ls hl => ?_)
          refine lv_iload hx hb dX4_drawn_57 (lv_at hl 1 rfl) ?_
          refine lv_bipush (v := (6 : Int32)) hx hb dX4_drawn_59 (by decide) ?_
          refine lv_idiv hx hb dX4_drawn_61 (by decide) ?_
          refine lv_bipush (v := (32 : Int32)) hx hb dX4_drawn_62 (by decide) ?_
          refine lv_irem hx hb dX4_drawn_64 (by decide) ?_
          obtain ⟨z65, ez65, hM⟩ := bnd_e hM
          rw [← ez65]
          refine lv_istore (lv' := [(6, .int z65), (5, .int (z48 - z48 / (6 : Int32) * (6 : Int32))), (4, .int z48), (0, .ref a_t), (1, .int v1), (2, .int v2_19), (3, .int v3_19)]) hx hb dX4_drawn_65 hl (by decide) rfl (fun ls hl => ?_)
          refine lv_iload_n hx hb dX4_drawn_67 rfl (lv_at hl 5 rfl) ?_
          refine lv_aload_n hx hb dX4_drawn_68 rfl (lv_at hl 3 rfl) ?_
          refine lv_aload_n hx hb dX4_drawn_69 rfl (lv_at hl 3 rfl) ?_
          refine va_get (D := (dC, dI)) (ci := 4) (v := .ref a_t_now) (C := RX4) (T := TX4) (N := 21) hx hb hU inlX4 hown hE.1 hP 0 rfl rfl 4 (by decide) (hU _ u_4_15) (fun _ h9 => h9) rfl dX4_drawn_70 ?_
          refine lv_iload hx hb dX4_drawn_73 (lv_at hl 0 rfl) ?_
          refine lv_iload hx hb dX4_drawn_75 (lv_at hl 0 rfl) ?_
          refine lv_iload hx hb dX4_drawn_77 (lv_at hl 1 rfl) ?_
          obtain ⟨x79, h79, hM⟩ := bind_e hM
          refine rdS (As := [.int (z48 - z48 / (6 : Int32) * (6 : Int32))]) (rest := [.int z65, .int z65, .ref a_t_now, .ref a_t, .int v2_19]) (st2 := [.int x79, .int z65, .int z65, .ref a_t_now, .ref a_t, .int v2_19]) ⟨hx, hb, hml, hown, hU⟩ hE (okX4_sizeOf (z48 - z48 / (6 : Int32) * (6 : Int32)) x79 h79) lk_X4_56 (hP.sub [] rfl) rfl hl.1 rfl (Nat.le_of_ble_eq_true rfl) ⟨Nat.le_of_ble_eq_true rfl, Nat.le_of_ble_eq_true rfl⟩ dX4_drawn_79 ⟨Nat.le_refl _, Nat.le_refl _⟩ rfl ?_
          obtain ⟨g82, hM⟩ := rmd_e hM
          refine lv_irem hx hb dX4_drawn_82 g82 ?_
          refine lv_isub hx hb dX4_drawn_83 ?_
          refine lv_iload hx hb dX4_drawn_84 (lv_at hl 1 rfl) ?_
          refine lv_iload hx hb dX4_drawn_86 (lv_at hl 2 rfl) ?_
          refine lv_sipush (v := (192 : Int32)) hx hb dX4_drawn_88 (by decide) ?_
          refine lv_idiv hx hb dX4_drawn_91 (by decide) ?_
          refine lv_bipush (v := (6 : Int32)) hx hb dX4_drawn_92 (by decide) ?_
          refine lv_irem hx hb dX4_drawn_94 (by decide) ?_
          obtain ⟨x95, h95, hM⟩ := bind_e hM
          refine rdV (As := [.ref a_t_now, .int (z65 - (z65 - z65 / x79 * x79)), .int (z48 - z48 / (6 : Int32) * (6 : Int32)), .int ((z48 / (192 : Int32)) - (z48 / (192 : Int32)) / (6 : Int32) * (6 : Int32))]) (rest := [.int v2_19]) (st2 := [.int x95, .int v2_19]) ⟨hx, hb, hml, hown, hU⟩ hE (okX4_stateOf a_t a_t_text a_t_paper a_t_now a_t_trial a_t_diary a_t_kept a_t_isKept a_t_seenAt a_t_worth a_t_readPaper a_t_read a_t_now (s_t_19.1, s_t_19.2.1, s_t_19.2.2.1, s_t_19.2.2.2.1, s_t_19.2.2.2.2.1, s_t_19.2.2.2.2.2.1, s_t_19.2.2.2.2.2.2.1, s_t_19.2.2.2.2.2.2.2.1, s_t_19.2.2.2.2.2.2.2.2.1, z37) s_t_now s_t_paper (z65 - (z65 - z65 / x79 * x79)) (z48 - z48 / (6 : Int32) * (6 : Int32)) ((z48 / (192 : Int32)) - (z48 / (192 : Int32)) / (6 : Int32) * (6 : Int32)) x95 h95) lk_X4_138 (hP.sub [0, 1, 2] rfl) rfl rfl rfl hl.1 rfl (Nat.le_of_ble_eq_true rfl) ⟨Nat.le_of_ble_eq_true rfl, Nat.le_of_ble_eq_true rfl⟩ dX4_drawn_95 ⟨Nat.le_refl _, Nat.le_refl _⟩ rfl ?_
          refine lv_iadd hx hb dX4_drawn_98 ?_
          refine lv_istore_n (lv' := [(2, .int (v2_19 + x95)), (6, .int z65), (5, .int (z48 - z48 / (6 : Int32) * (6 : Int32))), (4, .int z48), (0, .ref a_t), (1, .int v1), (3, .int v3_19)]) hx hb dX4_drawn_99 rfl hl (by decide) rfl (fun ls hl => ?_)
          refine lv_iinc (v := (v3_19 + (1 : Int32))) (lv' := [(3, .int (v3_19 + (1 : Int32))), (2, .int (v2_19 + x95)), (6, .int z65), (5, .int (z48 - z48 / (6 : Int32) * (6 : Int32))), (4, .int z48), (0, .ref a_t), (1, .int v1)]) hx hb dX4_drawn_100 hl (k := 6) rfl rfl (by decide) rfl (fun ls hl => ?_)
          refine lv_goto (tgt := 19) hx hb dX4_drawn_103 (by decide) ?_
          exact ih_19 (v2_19 + x95) (v3_19 + (1 : Int32)) (s_t_19.1, s_t_19.2.1, s_t_19.2.2.1, s_t_19.2.2.2.1, s_t_19.2.2.2.2.1, s_t_19.2.2.2.2.2.1, s_t_19.2.2.2.2.2.2.1, s_t_19.2.2.2.2.2.2.2.1, s_t_19.2.2.2.2.2.2.2.2.1, z37) hM ls _ _ hP hD hS (lv_sub hl [5, 6, 1, 0] rfl)
    exact w_19 FU (0 : Int32) (0 : Int32) s_t hM ls _ _ hP hD hS (lv_sub hl [2, 3, 1, 0] rfl)
  · have hM := ite_f (b2i_eq0 c9) hM
    refine lv_bipush (v := (-2 : Int32)) hx hb dX4_drawn_12 (by decide) ?_
    cases hM
    exact rt _ _ _ _ _ hP hS dX4_drawn_14 rfl
noncomputable def mX4_factorial_b4 (v0 : Int32) : Nat → Int32 → Int32 → Option (Int32)
  | 0, _, _ => none
  | n + 1, v1, v2 => (if v0 < v2 then some (v1) else mX4_factorial_b4 v0 n (v1 * v2) (v2 + (1 : Int32)))
noncomputable def mX4_factorial (v0 : Int32) : Option (Int32) := mX4_factorial_b4 v0 FU (1 : Int32) (2 : Int32)
set_option maxHeartbeats 4000000 in
set_option maxRecDepth 100000 in
theorem okX4_factorial {l : Launch} {dC : Nat → ClassId} {dI : Nat → Nat → Nat} {cI cC cZ : ClassId} (v0 : Int32) (res : Int32) (hM : mX4_factorial v0 = some res) : Rd l yX4_factorial cX4_factorial 3 (some .int) 0 0 (dC, dI) cI cC cZ [] [.int v0] (some (.int res)) := by
  refine Rd.ofI (by decide) (Nat.le_of_ble_eq_true rfl) [(0, .int v0)] rfl ?_
  intro p e s m args below meth c ls Q hx hb hml hown hU hE hP rt hl
  have hown : s.vm.findClass RX4 = some m.cls := hown
  unfold mX4_factorial at hM
  refine lv_iconst (v := (1 : Int32)) hx hb dX4_factorial_0 (by decide) ?_
  refine lv_istore_n (lv' := [(1, .int (1 : Int32)), (0, .int v0)]) hx hb dX4_factorial_1 rfl hl (by decide) rfl (fun ls hl => ?_)
  refine lv_iconst (v := (2 : Int32)) hx hb dX4_factorial_2 (by decide) ?_
  refine lv_istore_n (lv' := [(2, .int (2 : Int32)), (1, .int (1 : Int32)), (0, .int v0)]) hx hb dX4_factorial_3 rfl hl (by decide) rfl (fun ls hl => ?_)
  have w_4 : ∀ (n : Nat) (v1_4 : Int32) (v2_4 : Int32), mX4_factorial_b4 v0 n v1_4 v2_4 = some res → ∀ (ls : Array Slot), lv_has ls 3 [(0, .int v0), (1, .int v1_4), (2, .int v2_4)] → W p l e (RM 0 0) s m args below meth c s.heap [] 0 0 Q (F0 m 4 ls []) := by
    intro n
    induction n with
    | zero =>
      intro v1_4 v2_4 hM
      rw [mX4_factorial_b4] at hM
      cases hM
    | succ n_4 ih_4 =>
      intro v1_4 v2_4 hM ls hl
      rw [mX4_factorial_b4] at hM
      refine lv_iload_n hx hb dX4_factorial_4 rfl (lv_at hl 2 rfl) ?_
      refine lv_iload_n hx hb dX4_factorial_5 rfl (lv_at hl 0 rfl) ?_
      refine lv_icmp_gt (tgt := 19) hx hb dX4_factorial_6 (by decide) (fun c6 => ?_) (fun c6 => ?_)
      · have hM := ite_t c6 hM
        refine lv_iload_n hx hb dX4_factorial_19 rfl (lv_at hl 1 rfl) ?_
        cases hM
        exact rt _ _ _ dX4_factorial_20 rfl
      · have hM := ite_f c6 hM
        refine lv_iload_n hx hb dX4_factorial_9 rfl (lv_at hl 1 rfl) ?_
        refine lv_iload_n hx hb dX4_factorial_10 rfl (lv_at hl 2 rfl) ?_
        refine lv_imul hx hb dX4_factorial_11 ?_
        refine lv_istore_n (lv' := [(1, .int (v1_4 * v2_4)), (0, .int v0), (2, .int v2_4)]) hx hb dX4_factorial_12 rfl hl (by decide) rfl (fun ls hl => ?_)
        refine lv_iinc (v := (v2_4 + (1 : Int32))) (lv' := [(2, .int (v2_4 + (1 : Int32))), (1, .int (v1_4 * v2_4)), (0, .int v0)]) hx hb dX4_factorial_13 hl (k := 2) rfl rfl (by decide) rfl (fun ls hl => ?_)
        refine lv_goto (tgt := 4) hx hb dX4_factorial_16 (by decide) ?_
        exact ih_4 (v1_4 * v2_4) (v2_4 + (1 : Int32)) hM ls (lv_sub hl [2, 1, 0] rfl)
  exact w_4 FU (1 : Int32) (2 : Int32) hM ls (lv_sub hl [2, 1, 0] rfl)
noncomputable def mX4_figure_b28 (s_t : Int32 × Int32 × Int32 × Int32 × Int32 × Int32 × Int32 × Int32 × Int32 × Int64) (s_t_text : Nat → Int32) (v1 : Int32) (v2 : Int32) (t0 : Int32) : Option (Int32 × (Int32 × Int32 × Int32 × Int32 × Int32 × Int32 × Int32 × Int32 × Int32 × Int64)) := (mX4_in (t0.toInt64) (v1.toInt64) (v2.toInt64)).bind (fun x35 => (if x35 = true then some (t0, (s_t.1, s_t.2.1, s_t.2.2.1, s_t.2.2.2.1, s_t.2.2.2.2.1, (s_t.2.2.2.2.2.1 + (1 : Int32)), s_t.2.2.2.2.2.2.1, s_t.2.2.2.2.2.2.2.1, s_t.2.2.2.2.2.2.2.2.1, s_t.2.2.2.2.2.2.2.2.2)) else some ((-9 : Int32), s_t)))
noncomputable def mX4_figure (s_t : Int32 × Int32 × Int32 × Int32 × Int32 × Int32 × Int32 × Int32 × Int32 × Int64) (s_t_text : Nat → Int32) (v1 : Int32) (v2 : Int32) : Option (Int32 × (Int32 × Int32 × Int32 × Int32 × Int32 × Int32 × Int32 × Int32 × Int32 × Int64)) := (if s_t.1 ≤ s_t.2.2.2.2.2.1 then mX4_figure_b28 s_t s_t_text v1 v2 (-9 : Int32) else rd s_t_text 99 s_t.2.2.2.2.2.1 (fun x19 => mX4_figure_b28 s_t s_t_text v1 v2 (x19 - (48 : Int32))))
set_option maxHeartbeats 4000000 in
set_option maxRecDepth 100000 in
theorem okX4_figure {l : Launch} {dC : Nat → ClassId} {dI : Nat → Nat → Nat} {cI cC cZ : ClassId} (a_t a_t_text a_t_paper a_t_now a_t_trial a_t_diary a_t_kept a_t_isKept a_t_seenAt a_t_worth a_t_readPaper a_t_read : Nat) (s_t : Int32 × Int32 × Int32 × Int32 × Int32 × Int32 × Int32 × Int32 × Int32 × Int64) (s_t_text : Nat → Int32) (v1 : Int32) (v2 : Int32) (res : Int32 × (Int32 × Int32 × Int32 × Int32 × Int32 × Int32 × Int32 × Int32 × Int32 × Int64)) (hM : mX4_figure s_t s_t_text v1 v2 = some res) : Mu l yX4_figure cX4_figure 4 (some .int) 1 25 (dC, dI) cI cC cZ [(a_t, .inr (4, [.ref a_t_text, .int s_t.1, .int s_t.2.1, .ref a_t_paper, .ref a_t_now, .ref a_t_trial, .ref a_t_diary, .int s_t.2.2.1, .int s_t.2.2.2.1, .ref a_t_kept, .ref a_t_isKept, .ref a_t_seenAt, .int s_t.2.2.2.2.1, .long s_t.2.2.2.2.2.2.2.2.2, .ref a_t_worth, .int s_t.2.2.2.2.2.1, .int s_t.2.2.2.2.2.2.1, .ref a_t_readPaper, .ref a_t_read, .int s_t.2.2.2.2.2.2.2.1, .int s_t.2.2.2.2.2.2.2.2.1])), (a_t_text, .inl (cI, 99, .inl s_t_text))] [(a_t, .inr (4, [.ref a_t_text, .int res.2.1, .int res.2.2.1, .ref a_t_paper, .ref a_t_now, .ref a_t_trial, .ref a_t_diary, .int res.2.2.2.1, .int res.2.2.2.2.1, .ref a_t_kept, .ref a_t_isKept, .ref a_t_seenAt, .int res.2.2.2.2.2.1, .long res.2.2.2.2.2.2.2.2.2.2, .ref a_t_worth, .int res.2.2.2.2.2.2.1, .int res.2.2.2.2.2.2.2.1, .ref a_t_readPaper, .ref a_t_read, .int res.2.2.2.2.2.2.2.2.1, .int res.2.2.2.2.2.2.2.2.2.1])), (a_t_text, .inl (cI, 99, .inl s_t_text))] [.ref a_t, .int v1, .int v2] (some (.int res.1)) := by
  refine Mu.ofI (by decide) (Nat.le_of_ble_eq_true rfl) [(0, .ref a_t), (1, .int v1), (2, .int v2)] rfl ?_
  intro p e s m args below meth c ls Q A hx hb hml hown hU hE hP hD hS hA rt hl
  have hown : s.vm.findClass RX4 = some m.cls := hown
  unfold mX4_figure at hM
  refine lv_aload_n hx hb dX4_figure_0 rfl (lv_at hl 0 rfl) ?_
  refine va_get (D := (dC, dI)) (ci := 4) (v := .int s_t.2.2.2.2.2.1) (C := RX4) (T := TX4) (N := 21) hx hb hU inlX4 hown hE.1 hP 0 rfl rfl 15 (by decide) (hU _ u_8_16) (fun _ h9 => h9) rfl dX4_figure_1 ?_
  refine lv_aload_n hx hb dX4_figure_4 rfl (lv_at hl 0 rfl) ?_
  refine va_get (D := (dC, dI)) (ci := 4) (v := .int s_t.1) (C := RX4) (T := TX4) (N := 21) hx hb hU inlX4 hown hE.1 hP 0 rfl rfl 1 (by decide) (hU _ u_5_17) (fun _ h9 => h9) rfl dX4_figure_5 ?_
  have w_28 : ∀ (t0_28 : Int32), mX4_figure_b28 s_t s_t_text v1 v2 t0_28 = some res → ∀ (ls : Array Slot) (H : Heap) (locs : List Loc), va_P (dC, dI) vwCl [(a_t, .inr (4, [.ref a_t_text, .int s_t.1, .int s_t.2.1, .ref a_t_paper, .ref a_t_now, .ref a_t_trial, .ref a_t_diary, .int s_t.2.2.1, .int s_t.2.2.2.1, .ref a_t_kept, .ref a_t_isKept, .ref a_t_seenAt, .int s_t.2.2.2.2.1, .long s_t.2.2.2.2.2.2.2.2.2, .ref a_t_worth, .int s_t.2.2.2.2.2.1, .int s_t.2.2.2.2.2.2.1, .ref a_t_readPaper, .ref a_t_read, .int s_t.2.2.2.2.2.2.2.1, .int s_t.2.2.2.2.2.2.2.2.1])), (a_t_text, .inl (cI, 99, .inl s_t_text))] H → va_D A [(a_t, .inr (4, [.ref a_t_text, .int s_t.1, .int s_t.2.1, .ref a_t_paper, .ref a_t_now, .ref a_t_trial, .ref a_t_diary, .int s_t.2.2.1, .int s_t.2.2.2.1, .ref a_t_kept, .ref a_t_isKept, .ref a_t_seenAt, .int s_t.2.2.2.2.1, .long s_t.2.2.2.2.2.2.2.2.2, .ref a_t_worth, .int s_t.2.2.2.2.2.1, .int s_t.2.2.2.2.2.2.1, .ref a_t_readPaper, .ref a_t_read, .int s_t.2.2.2.2.2.2.2.1, .int s_t.2.2.2.2.2.2.2.2.1])), (a_t_text, .inl (cI, 99, .inl s_t_text))] → va_S A s.heap H locs → lv_has ls 4 [(0, .ref a_t), (1, .int v1), (2, .int v2)] → W p l e (RM 1 25) s m args below meth c H locs 0 0 Q (F0 m 28 ls [.int t0_28]) := by
    intro t0_28 hM ls H locs hP hD hS hl
    unfold mX4_figure_b28 at hM
    refine lv_istore_n (lv' := [(3, .int t0_28), (0, .ref a_t), (1, .int v1), (2, .int v2)]) hx hb dX4_figure_28 rfl hl (by decide) rfl (fun ls hl => ?_)
    refine lv_iload_n hx hb dX4_figure_29 rfl (lv_at hl 0 rfl) ?_
    refine lv_i2l (v := (t0_28.toInt64)) hx hb dX4_figure_30 rfl ?_
    refine lv_iload_n hx hb dX4_figure_31 rfl (lv_at hl 2 rfl) ?_
    refine lv_i2l (v := (v1.toInt64)) hx hb dX4_figure_32 rfl ?_
    refine lv_iload_n hx hb dX4_figure_33 rfl (lv_at hl 3 rfl) ?_
    refine lv_i2l (v := (v2.toInt64)) hx hb dX4_figure_34 rfl ?_
    obtain ⟨x35, h35, hM⟩ := bind_e hM
    refine rdS (As := [.long (t0_28.toInt64), .long (v1.toInt64), .long (v2.toInt64)]) (rest := []) (st2 := [.int (b2i x35)]) ⟨hx, hb, hml, hown, hU⟩ hE (okX4_in (t0_28.toInt64) (v1.toInt64) (v2.toInt64) x35 h35) lk_X4_50 (hP.sub [] rfl) rfl hl.1 rfl (Nat.le_of_ble_eq_true rfl) ⟨Nat.le_of_ble_eq_true rfl, Nat.le_of_ble_eq_true rfl⟩ dX4_figure_35 ⟨Nat.le_refl _, Nat.le_refl _⟩ rfl ?_
    refine lv_if_ne (tgt := 44) hx hb dX4_figure_38 (by decide) (fun c38 => ?_) (fun c38 => ?_)
    · have hM := ite_t (b2i_ne0 c38) hM
      refine lv_aload_n hx hb dX4_figure_44 rfl (lv_at hl 1 rfl) ?_
      refine lv_dup hx hb dX4_figure_45 rfl ?_
      refine va_get (D := (dC, dI)) (ci := 4) (v := .int s_t.2.2.2.2.2.1) (C := RX4) (T := TX4) (N := 21) hx hb hU inlX4 hown hE.1 hP 0 rfl rfl 15 (by decide) (hU _ u_8_16) (fun _ h9 => h9) rfl dX4_figure_46 ?_
      refine lv_iconst (v := (1 : Int32)) hx hb dX4_figure_49 (by decide) ?_
      refine lv_iadd hx hb dX4_figure_50 ?_
      refine va_put (D := (dC, dI)) (ci := 4) (v := .int (s_t.2.2.2.2.2.1 + (1 : Int32))) (ty := .int) (C := RX4) (T := TX4) (N := 21) hx hb hU inlX4 tyX4 tyX4_ok nmX4 hown hE.1 hP hD hS 0 rfl rfl 15 (by decide) (hU _ u_8_16) (fun _ h9 => h9) rfl (tyX4_ok 15 (by decide)) rfl rfl (Nat.le_of_ble_eq_true rfl) dX4_figure_51 (fun H locs hP hD hS => ?_)
      have hP : va_P (dC, dI) vwCl [(a_t, .inr (4, [.ref a_t_text, .int s_t.1, .int s_t.2.1, .ref a_t_paper, .ref a_t_now, .ref a_t_trial, .ref a_t_diary, .int s_t.2.2.1, .int s_t.2.2.2.1, .ref a_t_kept, .ref a_t_isKept, .ref a_t_seenAt, .int s_t.2.2.2.2.1, .long s_t.2.2.2.2.2.2.2.2.2, .ref a_t_worth, .int (s_t.2.2.2.2.2.1 + (1 : Int32)), .int s_t.2.2.2.2.2.2.1, .ref a_t_readPaper, .ref a_t_read, .int s_t.2.2.2.2.2.2.2.1, .int s_t.2.2.2.2.2.2.2.2.1])), (a_t_text, .inl (cI, 99, .inl s_t_text))] H := hP
      have hD : va_D A [(a_t, .inr (4, [.ref a_t_text, .int s_t.1, .int s_t.2.1, .ref a_t_paper, .ref a_t_now, .ref a_t_trial, .ref a_t_diary, .int s_t.2.2.1, .int s_t.2.2.2.1, .ref a_t_kept, .ref a_t_isKept, .ref a_t_seenAt, .int s_t.2.2.2.2.1, .long s_t.2.2.2.2.2.2.2.2.2, .ref a_t_worth, .int (s_t.2.2.2.2.2.1 + (1 : Int32)), .int s_t.2.2.2.2.2.2.1, .ref a_t_readPaper, .ref a_t_read, .int s_t.2.2.2.2.2.2.2.1, .int s_t.2.2.2.2.2.2.2.2.1])), (a_t_text, .inl (cI, 99, .inl s_t_text))] := hD
      refine lv_iload_n hx hb dX4_figure_54 rfl (lv_at hl 0 rfl) ?_
      cases hM
      exact rt _ _ _ _ _ hP hS dX4_figure_55 rfl
    · have hM := ite_f (b2i_eq0 c38) hM
      refine lv_bipush (v := (-9 : Int32)) hx hb dX4_figure_41 (by decide) ?_
      cases hM
      exact rt _ _ _ _ _ hP hS dX4_figure_43 rfl
  refine lv_icmp_ge (tgt := 26) hx hb dX4_figure_8 (by decide) (fun c8 => ?_) (fun c8 => ?_)
  · have hM := ite_t c8 hM
    refine lv_bipush (v := (-9 : Int32)) hx hb dX4_figure_26 (by decide) ?_
    exact w_28 (-9 : Int32) hM ls _ _ hP hD hS (lv_sub hl [0, 1, 2] rfl)
  · have hM := ite_f c8 hM
    refine lv_aload_n hx hb dX4_figure_11 rfl (lv_at hl 0 rfl) ?_
    refine va_get (D := (dC, dI)) (ci := 4) (v := .ref a_t_text) (C := RX4) (T := TX4) (N := 21) hx hb hU inlX4 hown hE.1 hP 0 rfl rfl 0 (by decide) (hU _ u_4_13) (fun _ h9 => h9) rfl dX4_figure_12 ?_
    refine lv_aload_n hx hb dX4_figure_15 rfl (lv_at hl 0 rfl) ?_
    refine va_get (D := (dC, dI)) (ci := 4) (v := .int s_t.2.2.2.2.2.1) (C := RX4) (T := TX4) (N := 21) hx hb hU inlX4 hown hE.1 hP 0 rfl rfl 15 (by decide) (hU _ u_8_16) (fun _ h9 => h9) rfl dX4_figure_16 ?_
    obtain ⟨g19, hM⟩ := rd_e hM
    refine va_iald hx hb hE.1 hP 1 0 rfl rfl g19 dX4_figure_19 ?_
    refine lv_bipush (v := (48 : Int32)) hx hb dX4_figure_20 (by decide) ?_
    refine lv_isub hx hb dX4_figure_22 ?_
    refine lv_goto (tgt := 28) hx hb dX4_figure_23 (by decide) ?_
    exact w_28 ((s_t_text s_t.2.2.2.2.2.1.toNatClampNeg) - (48 : Int32)) hM ls _ _ hP hD hS (lv_sub hl [0, 1, 2] rfl)
noncomputable def mX4_readRange_b81 (s_t : Int32 × Int32 × Int32 × Int32 × Int32 × Int32 × Int32 × Int32 × Int32 × Int64) (s_t_text : Nat → Int32) (t0 : Int32) : Option (Bool × (Int32 × Int32 × Int32 × Int32 × Int32 × Int32 × Int32 × Int32 × Int32 × Int64)) := (mX4_isRange s_t.2.2.2.2.2.2.2.1 t0).bind (fun x87 => (if x87 = true then some (true, (s_t.1, s_t.2.1, s_t.2.2.1, s_t.2.2.2.1, s_t.2.2.2.2.1, (s_t.2.2.2.2.2.1 + (1 : Int32)), s_t.2.2.2.2.2.2.1, s_t.2.2.2.2.2.2.2.1, t0, s_t.2.2.2.2.2.2.2.2.2)) else some (false, s_t)))
noncomputable def mX4_readRange_b34 (s_t_text : Nat → Int32) (v1 : Int32) (t0 : Int32) (s_t : Int32 × Int32 × Int32 × Int32 × Int32 × Int32 × Int32 × Int32 × Int32 × Int64) : Option (Bool × (Int32 × Int32 × Int32 × Int32 × Int32 × Int32 × Int32 × Int32 × Int32 × Int64)) := (if t0 = (-9 : Int32) then some (false, s_t) else (if s_t.1 ≤ s_t.2.2.2.2.2.1 then mX4_readRange_b81 (s_t.1, s_t.2.1, s_t.2.2.1, s_t.2.2.2.1, s_t.2.2.2.2.1, s_t.2.2.2.2.2.1, s_t.2.2.2.2.2.2.1, (((10 : Int32) * v1) + t0), s_t.2.2.2.2.2.2.2.2.1, s_t.2.2.2.2.2.2.2.2.2) s_t_text (-9 : Int32) else rd s_t_text 99 s_t.2.2.2.2.2.1 (fun x72 => mX4_readRange_b81 (s_t.1, s_t.2.1, s_t.2.2.1, s_t.2.2.2.1, s_t.2.2.2.2.1, s_t.2.2.2.2.2.1, s_t.2.2.2.2.2.2.1, (((10 : Int32) * v1) + t0), s_t.2.2.2.2.2.2.2.2.1, s_t.2.2.2.2.2.2.2.2.2) s_t_text (x72 - (48 : Int32)))))
noncomputable def mX4_readRange_b31 (s_t : Int32 × Int32 × Int32 × Int32 × Int32 × Int32 × Int32 × Int32 × Int32 × Int64) (s_t_text : Nat → Int32) (v1 : Int32) (t0 : Int32) (t1 : Bool) : Option (Bool × (Int32 × Int32 × Int32 × Int32 × Int32 × Int32 × Int32 × Int32 × Int32 × Int64)) := (mX4_figure s_t s_t_text (b2i t1) t0).bind (fun x31 => mX4_readRange_b34 s_t_text v1 x31.1 x31.2)
noncomputable def mX4_readRange (s_t : Int32 × Int32 × Int32 × Int32 × Int32 × Int32 × Int32 × Int32 × Int32 × Int64) (s_t_text : Nat → Int32) : Option (Bool × (Int32 × Int32 × Int32 × Int32 × Int32 × Int32 × Int32 × Int32 × Int32 × Int64)) := (mX4_figure s_t s_t_text (0 : Int32) (3 : Int32)).bind (fun x3 => (if x3.1 = (-9 : Int32) then mX4_readRange_b34 s_t_text x3.1 (-9 : Int32) x3.2 else (if x3.1 = (3 : Int32) then mX4_readRange_b31 x3.2 s_t_text x3.1 (1 : Int32) false else mX4_readRange_b31 x3.2 s_t_text x3.1 (9 : Int32) false)))
set_option maxHeartbeats 4000000 in
set_option maxRecDepth 100000 in
theorem okX4_readRange {l : Launch} {dC : Nat → ClassId} {dI : Nat → Nat → Nat} {cI cC cZ : ClassId} (a_t a_t_text a_t_paper a_t_now a_t_trial a_t_diary a_t_kept a_t_isKept a_t_seenAt a_t_worth a_t_readPaper a_t_read : Nat) (s_t : Int32 × Int32 × Int32 × Int32 × Int32 × Int32 × Int32 × Int32 × Int32 × Int64) (s_t_text : Nat → Int32) (res : Bool × (Int32 × Int32 × Int32 × Int32 × Int32 × Int32 × Int32 × Int32 × Int32 × Int64)) (hM : mX4_readRange s_t s_t_text = some res) : Mu l yX4_readRange cX4_readRange 4 (some .boolean) 2 48 (dC, dI) cI cC cZ [(a_t, .inr (4, [.ref a_t_text, .int s_t.1, .int s_t.2.1, .ref a_t_paper, .ref a_t_now, .ref a_t_trial, .ref a_t_diary, .int s_t.2.2.1, .int s_t.2.2.2.1, .ref a_t_kept, .ref a_t_isKept, .ref a_t_seenAt, .int s_t.2.2.2.2.1, .long s_t.2.2.2.2.2.2.2.2.2, .ref a_t_worth, .int s_t.2.2.2.2.2.1, .int s_t.2.2.2.2.2.2.1, .ref a_t_readPaper, .ref a_t_read, .int s_t.2.2.2.2.2.2.2.1, .int s_t.2.2.2.2.2.2.2.2.1])), (a_t_text, .inl (cI, 99, .inl s_t_text))] [(a_t, .inr (4, [.ref a_t_text, .int res.2.1, .int res.2.2.1, .ref a_t_paper, .ref a_t_now, .ref a_t_trial, .ref a_t_diary, .int res.2.2.2.1, .int res.2.2.2.2.1, .ref a_t_kept, .ref a_t_isKept, .ref a_t_seenAt, .int res.2.2.2.2.2.1, .long res.2.2.2.2.2.2.2.2.2.2, .ref a_t_worth, .int res.2.2.2.2.2.2.1, .int res.2.2.2.2.2.2.2.1, .ref a_t_readPaper, .ref a_t_read, .int res.2.2.2.2.2.2.2.2.1, .int res.2.2.2.2.2.2.2.2.2.1])), (a_t_text, .inl (cI, 99, .inl s_t_text))] [.ref a_t] (some (.int (b2i res.1))) := by
  refine Mu.ofZ (by decide) (Nat.le_of_ble_eq_true rfl) [(0, .ref a_t)] rfl ?_
  intro p e s m args below meth c ls Q A hx hb hml hown hU hE hP hD hS hA rt hl
  have hown : s.vm.findClass RX4 = some m.cls := hown
  unfold mX4_readRange at hM
  refine lv_aload_n hx hb dX4_readRange_0 rfl (lv_at hl 0 rfl) ?_
  refine lv_iconst (v := (0 : Int32)) hx hb dX4_readRange_1 (by decide) ?_
  refine lv_iconst (v := (3 : Int32)) hx hb dX4_readRange_2 (by decide) ?_
  obtain ⟨x3, h3, hM⟩ := bind_e hM
  refine muV (As := [.int (0 : Int32), .int (3 : Int32)]) (rest := []) (st2 := [.int x3.1]) (nw := [(a_t, .inr (4, [.ref a_t_text, .int x3.2.1, .int x3.2.2.1, .ref a_t_paper, .ref a_t_now, .ref a_t_trial, .ref a_t_diary, .int x3.2.2.2.1, .int x3.2.2.2.2.1, .ref a_t_kept, .ref a_t_isKept, .ref a_t_seenAt, .int x3.2.2.2.2.2.1, .long x3.2.2.2.2.2.2.2.2.2.2, .ref a_t_worth, .int x3.2.2.2.2.2.2.1, .int x3.2.2.2.2.2.2.2.1, .ref a_t_readPaper, .ref a_t_read, .int x3.2.2.2.2.2.2.2.2.1, .int x3.2.2.2.2.2.2.2.2.2.1])), (a_t_text, .inl (cI, 99, .inl s_t_text))]) ⟨hx, hb, hml, hown, hU⟩ hE (okX4_figure a_t a_t_text a_t_paper a_t_now a_t_trial a_t_diary a_t_kept a_t_isKept a_t_seenAt a_t_worth a_t_readPaper a_t_read s_t s_t_text (0 : Int32) (3 : Int32) x3 h3) lk_X4_68 hP hD hS hA [0, 1] rfl rfl rfl rfl rfl rfl hl.1 rfl (Nat.le_of_ble_eq_true rfl) ⟨Nat.le_of_ble_eq_true rfl, Nat.le_of_ble_eq_true rfl⟩ dX4_readRange_3 ⟨Nat.le_refl _, Nat.le_refl _⟩ rfl rfl rfl rfl (fun H locs hP hD hS => ?_)
  refine lv_istore_n (lv' := [(1, .int x3.1), (0, .ref a_t)]) hx hb dX4_readRange_6 rfl hl (by decide) rfl (fun ls hl => ?_)
  refine lv_iload_n hx hb dX4_readRange_7 rfl (lv_at hl 0 rfl) ?_
  refine lv_bipush (v := (-9 : Int32)) hx hb dX4_readRange_8 (by decide) ?_
  have w_34 : ∀ (t0_34 : Int32) (s_t_34 : Int32 × Int32 × Int32 × Int32 × Int32 × Int32 × Int32 × Int32 × Int32 × Int64), mX4_readRange_b34 s_t_text x3.1 t0_34 s_t_34 = some res → ∀ (ls : Array Slot) (H : Heap) (locs : List Loc), va_P (dC, dI) vwCl [(a_t, .inr (4, [.ref a_t_text, .int s_t_34.1, .int s_t_34.2.1, .ref a_t_paper, .ref a_t_now, .ref a_t_trial, .ref a_t_diary, .int s_t_34.2.2.1, .int s_t_34.2.2.2.1, .ref a_t_kept, .ref a_t_isKept, .ref a_t_seenAt, .int s_t_34.2.2.2.2.1, .long s_t_34.2.2.2.2.2.2.2.2.2, .ref a_t_worth, .int s_t_34.2.2.2.2.2.1, .int s_t_34.2.2.2.2.2.2.1, .ref a_t_readPaper, .ref a_t_read, .int s_t_34.2.2.2.2.2.2.2.1, .int s_t_34.2.2.2.2.2.2.2.2.1])), (a_t_text, .inl (cI, 99, .inl s_t_text))] H → va_D A [(a_t, .inr (4, [.ref a_t_text, .int s_t_34.1, .int s_t_34.2.1, .ref a_t_paper, .ref a_t_now, .ref a_t_trial, .ref a_t_diary, .int s_t_34.2.2.1, .int s_t_34.2.2.2.1, .ref a_t_kept, .ref a_t_isKept, .ref a_t_seenAt, .int s_t_34.2.2.2.2.1, .long s_t_34.2.2.2.2.2.2.2.2.2, .ref a_t_worth, .int s_t_34.2.2.2.2.2.1, .int s_t_34.2.2.2.2.2.2.1, .ref a_t_readPaper, .ref a_t_read, .int s_t_34.2.2.2.2.2.2.2.1, .int s_t_34.2.2.2.2.2.2.2.2.1])), (a_t_text, .inl (cI, 99, .inl s_t_text))] → va_S A s.heap H locs → lv_has ls 4 [(0, .ref a_t), (1, .int x3.1)] → W p l e (RM 2 48) s m args below meth c H locs 0 0 Q (F0 m 34 ls [.int t0_34]) := by
    intro t0_34 s_t_34 hM ls H locs hP hD hS hl
    unfold mX4_readRange_b34 at hM
    refine lv_istore_n (lv' := [(2, .int t0_34), (0, .ref a_t), (1, .int x3.1)]) hx hb dX4_readRange_34 rfl hl (by decide) rfl (fun ls hl => ?_)
    refine lv_iload_n hx hb dX4_readRange_35 rfl (lv_at hl 0 rfl) ?_
    refine lv_bipush (v := (-9 : Int32)) hx hb dX4_readRange_36 (by decide) ?_
    refine lv_icmp_ne (tgt := 43) hx hb dX4_readRange_38 (by decide) (fun c38 => ?_) (fun c38 => ?_)
    · have hM := ite_f c38 hM
      refine lv_aload_n hx hb dX4_readRange_43 rfl (lv_at hl 1 rfl) ?_
      refine lv_bipush (v := (10 : Int32)) hx hb dX4_readRange_44 (by decide) ?_
      refine lv_iload_n hx hb dX4_readRange_46 rfl (lv_at hl 2 rfl) ?_
      refine lv_imul hx hb dX4_readRange_47 ?_
      refine lv_iload_n hx hb dX4_readRange_48 rfl (lv_at hl 0 rfl) ?_
      refine lv_iadd hx hb dX4_readRange_49 ?_
      refine va_put (D := (dC, dI)) (ci := 4) (v := .int (((10 : Int32) * x3.1) + t0_34)) (ty := .int) (C := RX4) (T := TX4) (N := 21) hx hb hU inlX4 tyX4 tyX4_ok nmX4 hown hE.1 hP hD hS 0 rfl rfl 19 (by decide) (hU _ u_9_1) (fun _ h9 => h9) rfl (tyX4_ok 19 (by decide)) rfl rfl (Nat.le_of_ble_eq_true rfl) dX4_readRange_50 (fun H locs hP hD hS => ?_)
      have hP : va_P (dC, dI) vwCl [(a_t, .inr (4, [.ref a_t_text, .int s_t_34.1, .int s_t_34.2.1, .ref a_t_paper, .ref a_t_now, .ref a_t_trial, .ref a_t_diary, .int s_t_34.2.2.1, .int s_t_34.2.2.2.1, .ref a_t_kept, .ref a_t_isKept, .ref a_t_seenAt, .int s_t_34.2.2.2.2.1, .long s_t_34.2.2.2.2.2.2.2.2.2, .ref a_t_worth, .int s_t_34.2.2.2.2.2.1, .int s_t_34.2.2.2.2.2.2.1, .ref a_t_readPaper, .ref a_t_read, .int (((10 : Int32) * x3.1) + t0_34), .int s_t_34.2.2.2.2.2.2.2.2.1])), (a_t_text, .inl (cI, 99, .inl s_t_text))] H := hP
      have hD : va_D A [(a_t, .inr (4, [.ref a_t_text, .int s_t_34.1, .int s_t_34.2.1, .ref a_t_paper, .ref a_t_now, .ref a_t_trial, .ref a_t_diary, .int s_t_34.2.2.1, .int s_t_34.2.2.2.1, .ref a_t_kept, .ref a_t_isKept, .ref a_t_seenAt, .int s_t_34.2.2.2.2.1, .long s_t_34.2.2.2.2.2.2.2.2.2, .ref a_t_worth, .int s_t_34.2.2.2.2.2.1, .int s_t_34.2.2.2.2.2.2.1, .ref a_t_readPaper, .ref a_t_read, .int (((10 : Int32) * x3.1) + t0_34), .int s_t_34.2.2.2.2.2.2.2.2.1])), (a_t_text, .inl (cI, 99, .inl s_t_text))] := hD
      refine lv_aload_n hx hb dX4_readRange_53 rfl (lv_at hl 1 rfl) ?_
      refine va_get (D := (dC, dI)) (ci := 4) (v := .int s_t_34.2.2.2.2.2.1) (C := RX4) (T := TX4) (N := 21) hx hb hU inlX4 hown hE.1 hP 0 rfl rfl 15 (by decide) (hU _ u_8_16) (fun _ h9 => h9) rfl dX4_readRange_54 ?_
      refine lv_aload_n hx hb dX4_readRange_57 rfl (lv_at hl 1 rfl) ?_
      refine va_get (D := (dC, dI)) (ci := 4) (v := .int s_t_34.1) (C := RX4) (T := TX4) (N := 21) hx hb hU inlX4 hown hE.1 hP 0 rfl rfl 1 (by decide) (hU _ u_5_17) (fun _ h9 => h9) rfl dX4_readRange_58 ?_
      have w_81 : ∀ (t0_81 : Int32), mX4_readRange_b81 (s_t_34.1, s_t_34.2.1, s_t_34.2.2.1, s_t_34.2.2.2.1, s_t_34.2.2.2.2.1, s_t_34.2.2.2.2.2.1, s_t_34.2.2.2.2.2.2.1, (((10 : Int32) * x3.1) + t0_34), s_t_34.2.2.2.2.2.2.2.2.1, s_t_34.2.2.2.2.2.2.2.2.2) s_t_text t0_81 = some res → ∀ (ls : Array Slot) (H : Heap) (locs : List Loc), va_P (dC, dI) vwCl [(a_t, .inr (4, [.ref a_t_text, .int s_t_34.1, .int s_t_34.2.1, .ref a_t_paper, .ref a_t_now, .ref a_t_trial, .ref a_t_diary, .int s_t_34.2.2.1, .int s_t_34.2.2.2.1, .ref a_t_kept, .ref a_t_isKept, .ref a_t_seenAt, .int s_t_34.2.2.2.2.1, .long s_t_34.2.2.2.2.2.2.2.2.2, .ref a_t_worth, .int s_t_34.2.2.2.2.2.1, .int s_t_34.2.2.2.2.2.2.1, .ref a_t_readPaper, .ref a_t_read, .int (((10 : Int32) * x3.1) + t0_34), .int s_t_34.2.2.2.2.2.2.2.2.1])), (a_t_text, .inl (cI, 99, .inl s_t_text))] H → va_D A [(a_t, .inr (4, [.ref a_t_text, .int s_t_34.1, .int s_t_34.2.1, .ref a_t_paper, .ref a_t_now, .ref a_t_trial, .ref a_t_diary, .int s_t_34.2.2.1, .int s_t_34.2.2.2.1, .ref a_t_kept, .ref a_t_isKept, .ref a_t_seenAt, .int s_t_34.2.2.2.2.1, .long s_t_34.2.2.2.2.2.2.2.2.2, .ref a_t_worth, .int s_t_34.2.2.2.2.2.1, .int s_t_34.2.2.2.2.2.2.1, .ref a_t_readPaper, .ref a_t_read, .int (((10 : Int32) * x3.1) + t0_34), .int s_t_34.2.2.2.2.2.2.2.2.1])), (a_t_text, .inl (cI, 99, .inl s_t_text))] → va_S A s.heap H locs → lv_has ls 4 [(0, .ref a_t)] → W p l e (RM 2 48) s m args below meth c H locs 0 0 Q (F0 m 81 ls [.int t0_81]) := by
        intro t0_81 hM ls H locs hP hD hS hl
        unfold mX4_readRange_b81 at hM
        refine lv_istore_n (lv' := [(3, .int t0_81), (0, .ref a_t)]) hx hb dX4_readRange_81 rfl hl (by decide) rfl (fun ls hl => ?_)
        refine lv_aload_n hx hb dX4_readRange_82 rfl (lv_at hl 1 rfl) ?_
        refine va_get (D := (dC, dI)) (ci := 4) (v := .int (((10 : Int32) * x3.1) + t0_34)) (C := RX4) (T := TX4) (N := 21) hx hb hU inlX4 hown hE.1 hP 0 rfl rfl 19 (by decide) (hU _ u_9_1) (fun _ h9 => h9) rfl dX4_readRange_83 ?_
        refine lv_iload_n hx hb dX4_readRange_86 rfl (lv_at hl 0 rfl) ?_
        obtain ⟨x87, h87, hM⟩ := bind_e hM
        refine rdS (As := [.int (((10 : Int32) * x3.1) + t0_34), .int t0_81]) (rest := []) (st2 := [.int (b2i x87)]) ⟨hx, hb, hml, hown, hU⟩ hE (okX4_isRange (((10 : Int32) * x3.1) + t0_34) t0_81 x87 h87) lk_X4_75 (hP.sub [] rfl) rfl hl.1 rfl (Nat.le_of_ble_eq_true rfl) ⟨Nat.le_of_ble_eq_true rfl, Nat.le_of_ble_eq_true rfl⟩ dX4_readRange_87 ⟨Nat.le_refl _, Nat.le_refl _⟩ rfl ?_
        refine lv_if_ne (tgt := 95) hx hb dX4_readRange_90 (by decide) (fun c90 => ?_) (fun c90 => ?_)
        · have hM := ite_t (b2i_ne0 c90) hM
          refine lv_aload_n hx hb dX4_readRange_95 rfl (lv_at hl 1 rfl) ?_
          refine lv_iload_n hx hb dX4_readRange_96 rfl (lv_at hl 0 rfl) ?_
          refine va_put (D := (dC, dI)) (ci := 4) (v := .int t0_81) (ty := .int) (C := RX4) (T := TX4) (N := 21) hx hb hU inlX4 tyX4 tyX4_ok nmX4 hown hE.1 hP hD hS 0 rfl rfl 20 (by decide) (hU _ u_9_2) (fun _ h9 => h9) rfl (tyX4_ok 20 (by decide)) rfl rfl (Nat.le_of_ble_eq_true rfl) dX4_readRange_97 (fun H locs hP hD hS => ?_)
          have hP : va_P (dC, dI) vwCl [(a_t, .inr (4, [.ref a_t_text, .int s_t_34.1, .int s_t_34.2.1, .ref a_t_paper, .ref a_t_now, .ref a_t_trial, .ref a_t_diary, .int s_t_34.2.2.1, .int s_t_34.2.2.2.1, .ref a_t_kept, .ref a_t_isKept, .ref a_t_seenAt, .int s_t_34.2.2.2.2.1, .long s_t_34.2.2.2.2.2.2.2.2.2, .ref a_t_worth, .int s_t_34.2.2.2.2.2.1, .int s_t_34.2.2.2.2.2.2.1, .ref a_t_readPaper, .ref a_t_read, .int (((10 : Int32) * x3.1) + t0_34), .int t0_81])), (a_t_text, .inl (cI, 99, .inl s_t_text))] H := hP
          have hD : va_D A [(a_t, .inr (4, [.ref a_t_text, .int s_t_34.1, .int s_t_34.2.1, .ref a_t_paper, .ref a_t_now, .ref a_t_trial, .ref a_t_diary, .int s_t_34.2.2.1, .int s_t_34.2.2.2.1, .ref a_t_kept, .ref a_t_isKept, .ref a_t_seenAt, .int s_t_34.2.2.2.2.1, .long s_t_34.2.2.2.2.2.2.2.2.2, .ref a_t_worth, .int s_t_34.2.2.2.2.2.1, .int s_t_34.2.2.2.2.2.2.1, .ref a_t_readPaper, .ref a_t_read, .int (((10 : Int32) * x3.1) + t0_34), .int t0_81])), (a_t_text, .inl (cI, 99, .inl s_t_text))] := hD
          refine lv_aload_n hx hb dX4_readRange_100 rfl (lv_at hl 1 rfl) ?_
          refine lv_dup hx hb dX4_readRange_101 rfl ?_
          refine va_get (D := (dC, dI)) (ci := 4) (v := .int s_t_34.2.2.2.2.2.1) (C := RX4) (T := TX4) (N := 21) hx hb hU inlX4 hown hE.1 hP 0 rfl rfl 15 (by decide) (hU _ u_8_16) (fun _ h9 => h9) rfl dX4_readRange_102 ?_
          refine lv_iconst (v := (1 : Int32)) hx hb dX4_readRange_105 (by decide) ?_
          refine lv_iadd hx hb dX4_readRange_106 ?_
          refine va_put (D := (dC, dI)) (ci := 4) (v := .int (s_t_34.2.2.2.2.2.1 + (1 : Int32))) (ty := .int) (C := RX4) (T := TX4) (N := 21) hx hb hU inlX4 tyX4 tyX4_ok nmX4 hown hE.1 hP hD hS 0 rfl rfl 15 (by decide) (hU _ u_8_16) (fun _ h9 => h9) rfl (tyX4_ok 15 (by decide)) rfl rfl (Nat.le_of_ble_eq_true rfl) dX4_readRange_107 (fun H locs hP hD hS => ?_)
          have hP : va_P (dC, dI) vwCl [(a_t, .inr (4, [.ref a_t_text, .int s_t_34.1, .int s_t_34.2.1, .ref a_t_paper, .ref a_t_now, .ref a_t_trial, .ref a_t_diary, .int s_t_34.2.2.1, .int s_t_34.2.2.2.1, .ref a_t_kept, .ref a_t_isKept, .ref a_t_seenAt, .int s_t_34.2.2.2.2.1, .long s_t_34.2.2.2.2.2.2.2.2.2, .ref a_t_worth, .int (s_t_34.2.2.2.2.2.1 + (1 : Int32)), .int s_t_34.2.2.2.2.2.2.1, .ref a_t_readPaper, .ref a_t_read, .int (((10 : Int32) * x3.1) + t0_34), .int t0_81])), (a_t_text, .inl (cI, 99, .inl s_t_text))] H := hP
          have hD : va_D A [(a_t, .inr (4, [.ref a_t_text, .int s_t_34.1, .int s_t_34.2.1, .ref a_t_paper, .ref a_t_now, .ref a_t_trial, .ref a_t_diary, .int s_t_34.2.2.1, .int s_t_34.2.2.2.1, .ref a_t_kept, .ref a_t_isKept, .ref a_t_seenAt, .int s_t_34.2.2.2.2.1, .long s_t_34.2.2.2.2.2.2.2.2.2, .ref a_t_worth, .int (s_t_34.2.2.2.2.2.1 + (1 : Int32)), .int s_t_34.2.2.2.2.2.2.1, .ref a_t_readPaper, .ref a_t_read, .int (((10 : Int32) * x3.1) + t0_34), .int t0_81])), (a_t_text, .inl (cI, 99, .inl s_t_text))] := hD
          refine lv_iconst (v := (1 : Int32)) hx hb dX4_readRange_110 (by decide) ?_
          cases hM
          exact rt true _ _ _ _ hP hS dX4_readRange_111 rfl
        · have hM := ite_f (b2i_eq0 c90) hM
          refine lv_iconst (v := (0 : Int32)) hx hb dX4_readRange_93 (by decide) ?_
          cases hM
          exact rt false _ _ _ _ hP hS dX4_readRange_94 rfl
      refine lv_icmp_ge (tgt := 79) hx hb dX4_readRange_61 (by decide) (fun c61 => ?_) (fun c61 => ?_)
      · have hM := ite_t c61 hM
        refine lv_bipush (v := (-9 : Int32)) hx hb dX4_readRange_79 (by decide) ?_
        exact w_81 (-9 : Int32) hM ls _ _ hP hD hS (lv_sub hl [1] rfl)
      · have hM := ite_f c61 hM
        refine lv_aload_n hx hb dX4_readRange_64 rfl (lv_at hl 1 rfl) ?_
        refine va_get (D := (dC, dI)) (ci := 4) (v := .ref a_t_text) (C := RX4) (T := TX4) (N := 21) hx hb hU inlX4 hown hE.1 hP 0 rfl rfl 0 (by decide) (hU _ u_4_13) (fun _ h9 => h9) rfl dX4_readRange_65 ?_
        refine lv_aload_n hx hb dX4_readRange_68 rfl (lv_at hl 1 rfl) ?_
        refine va_get (D := (dC, dI)) (ci := 4) (v := .int s_t_34.2.2.2.2.2.1) (C := RX4) (T := TX4) (N := 21) hx hb hU inlX4 hown hE.1 hP 0 rfl rfl 15 (by decide) (hU _ u_8_16) (fun _ h9 => h9) rfl dX4_readRange_69 ?_
        obtain ⟨g72, hM⟩ := rd_e hM
        refine va_iald hx hb hE.1 hP 1 0 rfl rfl g72 dX4_readRange_72 ?_
        refine lv_bipush (v := (48 : Int32)) hx hb dX4_readRange_73 (by decide) ?_
        refine lv_isub hx hb dX4_readRange_75 ?_
        refine lv_goto (tgt := 81) hx hb dX4_readRange_76 (by decide) ?_
        exact w_81 ((s_t_text s_t_34.2.2.2.2.2.1.toNatClampNeg) - (48 : Int32)) hM ls _ _ hP hD hS (lv_sub hl [1] rfl)
    · have hM := ite_t c38 hM
      refine lv_iconst (v := (0 : Int32)) hx hb dX4_readRange_41 (by decide) ?_
      cases hM
      exact rt false _ _ _ _ hP hS dX4_readRange_42 rfl
  refine lv_icmp_ne (tgt := 18) hx hb dX4_readRange_10 (by decide) (fun c10 => ?_) (fun c10 => ?_)
  · have hM := ite_f c10 hM
    refine lv_aload_n hx hb dX4_readRange_18 rfl (lv_at hl 1 rfl) ?_
    refine lv_iconst (v := (0 : Int32)) hx hb dX4_readRange_19 (by decide) ?_
    refine lv_iload_n hx hb dX4_readRange_20 rfl (lv_at hl 0 rfl) ?_
    refine lv_iconst (v := (3 : Int32)) hx hb dX4_readRange_21 (by decide) ?_
    have w_31 : ∀ (t0_31 : Int32) (t1_31 : Bool), mX4_readRange_b31 x3.2 s_t_text x3.1 t0_31 t1_31 = some res → ∀ (ls : Array Slot) (H : Heap) (locs : List Loc), va_P (dC, dI) vwCl [(a_t, .inr (4, [.ref a_t_text, .int x3.2.1, .int x3.2.2.1, .ref a_t_paper, .ref a_t_now, .ref a_t_trial, .ref a_t_diary, .int x3.2.2.2.1, .int x3.2.2.2.2.1, .ref a_t_kept, .ref a_t_isKept, .ref a_t_seenAt, .int x3.2.2.2.2.2.1, .long x3.2.2.2.2.2.2.2.2.2.2, .ref a_t_worth, .int x3.2.2.2.2.2.2.1, .int x3.2.2.2.2.2.2.2.1, .ref a_t_readPaper, .ref a_t_read, .int x3.2.2.2.2.2.2.2.2.1, .int x3.2.2.2.2.2.2.2.2.2.1])), (a_t_text, .inl (cI, 99, .inl s_t_text))] H → va_D A [(a_t, .inr (4, [.ref a_t_text, .int x3.2.1, .int x3.2.2.1, .ref a_t_paper, .ref a_t_now, .ref a_t_trial, .ref a_t_diary, .int x3.2.2.2.1, .int x3.2.2.2.2.1, .ref a_t_kept, .ref a_t_isKept, .ref a_t_seenAt, .int x3.2.2.2.2.2.1, .long x3.2.2.2.2.2.2.2.2.2.2, .ref a_t_worth, .int x3.2.2.2.2.2.2.1, .int x3.2.2.2.2.2.2.2.1, .ref a_t_readPaper, .ref a_t_read, .int x3.2.2.2.2.2.2.2.2.1, .int x3.2.2.2.2.2.2.2.2.2.1])), (a_t_text, .inl (cI, 99, .inl s_t_text))] → va_S A s.heap H locs → lv_has ls 4 [(0, .ref a_t), (1, .int x3.1)] → W p l e (RM 2 48) s m args below meth c H locs 0 0 Q (F0 m 31 ls [.int t0_31, .int (b2i t1_31), .ref a_t]) := by
      intro t0_31 t1_31 hM ls H locs hP hD hS hl
      unfold mX4_readRange_b31 at hM
      obtain ⟨x31, h31, hM⟩ := bind_e hM
      refine muV (As := [.int (b2i t1_31), .int t0_31]) (rest := []) (st2 := [.int x31.1]) (nw := [(a_t, .inr (4, [.ref a_t_text, .int x31.2.1, .int x31.2.2.1, .ref a_t_paper, .ref a_t_now, .ref a_t_trial, .ref a_t_diary, .int x31.2.2.2.1, .int x31.2.2.2.2.1, .ref a_t_kept, .ref a_t_isKept, .ref a_t_seenAt, .int x31.2.2.2.2.2.1, .long x31.2.2.2.2.2.2.2.2.2.2, .ref a_t_worth, .int x31.2.2.2.2.2.2.1, .int x31.2.2.2.2.2.2.2.1, .ref a_t_readPaper, .ref a_t_read, .int x31.2.2.2.2.2.2.2.2.1, .int x31.2.2.2.2.2.2.2.2.2.1])), (a_t_text, .inl (cI, 99, .inl s_t_text))]) ⟨hx, hb, hml, hown, hU⟩ hE (okX4_figure a_t a_t_text a_t_paper a_t_now a_t_trial a_t_diary a_t_kept a_t_isKept a_t_seenAt a_t_worth a_t_readPaper a_t_read x3.2 s_t_text (b2i t1_31) t0_31 x31 h31) lk_X4_68 hP hD hS hA [0, 1] rfl rfl rfl rfl rfl rfl hl.1 rfl (Nat.le_of_ble_eq_true rfl) ⟨Nat.le_of_ble_eq_true rfl, Nat.le_of_ble_eq_true rfl⟩ dX4_readRange_31 ⟨Nat.le_refl _, Nat.le_refl _⟩ rfl rfl rfl rfl (fun H locs hP hD hS => ?_)
      exact w_34 x31.1 x31.2 hM ls _ _ hP hD hS (lv_sub hl [0, 1] rfl)
    refine lv_icmp_ne (tgt := 29) hx hb dX4_readRange_22 (by decide) (fun c22 => ?_) (fun c22 => ?_)
    · have hM := ite_f c22 hM
      refine lv_bipush (v := (9 : Int32)) hx hb dX4_readRange_29 (by decide) ?_
      exact w_31 (9 : Int32) false hM ls _ _ hP hD hS (lv_sub hl [1, 0] rfl)
    · have hM := ite_t c22 hM
      refine lv_iconst (v := (1 : Int32)) hx hb dX4_readRange_25 (by decide) ?_
      refine lv_goto (tgt := 31) hx hb dX4_readRange_26 (by decide) ?_
      exact w_31 (1 : Int32) false hM ls _ _ hP hD hS (lv_sub hl [1, 0] rfl)
  · have hM := ite_t c10 hM
    refine lv_bipush (v := (-9 : Int32)) hx hb dX4_readRange_13 (by decide) ?_
    refine lv_goto (tgt := 34) hx hb dX4_readRange_15 (by decide) ?_
    exact w_34 (-9 : Int32) x3.2 hM ls _ _ hP hD hS (lv_sub hl [1, 0] rfl)
noncomputable def mX4_readOneGrant_b65 (s_t_text : Nat → Int32) (s_t_read : Nat → Int32) (v1 : Int32) (t0 : Int32) (s_t : Int32 × Int32 × Int32 × Int32 × Int32 × Int32 × Int32 × Int32 × Int32 × Int64) : Option (Bool × (Int32 × Int32 × Int32 × Int32 × Int32 × Int32 × Int32 × Int32 × Int32 × Int64) × (Nat → Int32)) := (if t0 = (-9 : Int32) then some (false, s_t, s_t_read) else (mX4_readRange s_t s_t_text).bind (fun x73 => (if x73.1 = true then (mX4_figure x73.2 s_t_text x73.2.2.2.2.2.2.2.2.2.1 (5 : Int32)).bind (fun x87 => (if x87.1 = (-9 : Int32) then some (false, x87.2, s_t_read) else (mX4_addGrant s_t_read v1 t0 x87.2.2.2.2.2.2.2.2.1 x87.2.2.2.2.2.2.2.2.2.1 x87.1).bind (fun x114 => some (true, x87.2, x114)))) else some (false, x73.2, s_t_read))))
noncomputable def mX4_readOneGrant_b47 (s_t_text : Nat → Int32) (s_t_read : Nat → Int32) (t0 : Int32) (s_t : Int32 × Int32 × Int32 × Int32 × Int32 × Int32 × Int32 × Int32 × Int32 × Int64) : Option (Bool × (Int32 × Int32 × Int32 × Int32 × Int32 × Int32 × Int32 × Int32 × Int32 × Int64) × (Nat → Int32)) := (if t0 = (-9 : Int32) then mX4_readOneGrant_b65 s_t_text s_t_read t0 (-9 : Int32) s_t else (mX4_figure s_t s_t_text (0 : Int32) (5 : Int32)).bind (fun x62 => mX4_readOneGrant_b65 s_t_text s_t_read t0 x62.1 x62.2))
noncomputable def mX4_readOneGrant_b36 (s_t : Int32 × Int32 × Int32 × Int32 × Int32 × Int32 × Int32 × Int32 × Int32 × Int64) (s_t_text : Nat → Int32) (s_t_read : Nat → Int32) : Option (Bool × (Int32 × Int32 × Int32 × Int32 × Int32 × Int32 × Int32 × Int32 × Int32 × Int64) × (Nat → Int32)) := (mX4_figure s_t s_t_text (0 : Int32) (s_t.2.2.2.2.2.2.1 - (1 : Int32))).bind (fun x44 => mX4_readOneGrant_b47 s_t_text s_t_read x44.1 x44.2)
noncomputable def mX4_readOneGrant (s_t : Int32 × Int32 × Int32 × Int32 × Int32 × Int32 × Int32 × Int32 × Int32 × Int64) (s_t_text : Nat → Int32) (s_t_read : Nat → Int32) : Option (Bool × (Int32 × Int32 × Int32 × Int32 × Int32 × Int32 × Int32 × Int32 × Int32 × Int64) × (Nat → Int32)) := (if s_t.1 ≤ s_t.2.2.2.2.2.1 then mX4_readOneGrant_b36 s_t s_t_text s_t_read else rd s_t_text 99 s_t.2.2.2.2.2.1 (fun x19 => (if x19 = (57 : Int32) then (mX4_figure s_t s_t_text (9 : Int32) (9 : Int32)).bind (fun x30 => mX4_readOneGrant_b47 s_t_text s_t_read x30.1 x30.2) else mX4_readOneGrant_b36 s_t s_t_text s_t_read)))
set_option maxHeartbeats 4000000 in
set_option maxRecDepth 100000 in
theorem okX4_readOneGrant {l : Launch} {dC : Nat → ClassId} {dI : Nat → Nat → Nat} {cI cC cZ : ClassId} (a_t a_t_text a_t_paper a_t_now a_t_trial a_t_diary a_t_kept a_t_isKept a_t_seenAt a_t_worth a_t_readPaper a_t_read : Nat) (s_t : Int32 × Int32 × Int32 × Int32 × Int32 × Int32 × Int32 × Int32 × Int32 × Int64) (s_t_text : Nat → Int32) (s_t_read : Nat → Int32) (res : Bool × (Int32 × Int32 × Int32 × Int32 × Int32 × Int32 × Int32 × Int32 × Int32 × Int64) × (Nat → Int32)) (hM : mX4_readOneGrant s_t s_t_text s_t_read = some res) : Mu l yX4_readOneGrant cX4_readOneGrant 4 (some .boolean) 3 71 (dC, dI) cI cC cZ [(a_t, .inr (4, [.ref a_t_text, .int s_t.1, .int s_t.2.1, .ref a_t_paper, .ref a_t_now, .ref a_t_trial, .ref a_t_diary, .int s_t.2.2.1, .int s_t.2.2.2.1, .ref a_t_kept, .ref a_t_isKept, .ref a_t_seenAt, .int s_t.2.2.2.2.1, .long s_t.2.2.2.2.2.2.2.2.2, .ref a_t_worth, .int s_t.2.2.2.2.2.1, .int s_t.2.2.2.2.2.2.1, .ref a_t_readPaper, .ref a_t_read, .int s_t.2.2.2.2.2.2.2.1, .int s_t.2.2.2.2.2.2.2.2.1])), (a_t_text, .inl (cI, 99, .inl s_t_text)), (a_t_read, .inl (cI, 66, .inl s_t_read))] [(a_t, .inr (4, [.ref a_t_text, .int res.2.1.1, .int res.2.1.2.1, .ref a_t_paper, .ref a_t_now, .ref a_t_trial, .ref a_t_diary, .int res.2.1.2.2.1, .int res.2.1.2.2.2.1, .ref a_t_kept, .ref a_t_isKept, .ref a_t_seenAt, .int res.2.1.2.2.2.2.1, .long res.2.1.2.2.2.2.2.2.2.2.2, .ref a_t_worth, .int res.2.1.2.2.2.2.2.1, .int res.2.1.2.2.2.2.2.2.1, .ref a_t_readPaper, .ref a_t_read, .int res.2.1.2.2.2.2.2.2.2.1, .int res.2.1.2.2.2.2.2.2.2.2.1])), (a_t_text, .inl (cI, 99, .inl s_t_text)), (a_t_read, .inl (cI, 66, .inl res.2.2))] [.ref a_t] (some (.int (b2i res.1))) := by
  refine Mu.ofZ (by decide) (Nat.le_of_ble_eq_true rfl) [(0, .ref a_t)] rfl ?_
  intro p e s m args below meth c ls Q A hx hb hml hown hU hE hP hD hS hA rt hl
  have hown : s.vm.findClass RX4 = some m.cls := hown
  unfold mX4_readOneGrant at hM
  refine lv_aload_n hx hb dX4_readOneGrant_0 rfl (lv_at hl 0 rfl) ?_
  refine va_get (D := (dC, dI)) (ci := 4) (v := .int s_t.2.2.2.2.2.1) (C := RX4) (T := TX4) (N := 21) hx hb hU inlX4 hown hE.1 hP 0 rfl rfl 15 (by decide) (hU _ u_8_16) (fun _ h9 => h9) rfl dX4_readOneGrant_1 ?_
  refine lv_aload_n hx hb dX4_readOneGrant_4 rfl (lv_at hl 0 rfl) ?_
  refine va_get (D := (dC, dI)) (ci := 4) (v := .int s_t.1) (C := RX4) (T := TX4) (N := 21) hx hb hU inlX4 hown hE.1 hP 0 rfl rfl 1 (by decide) (hU _ u_5_17) (fun _ h9 => h9) rfl dX4_readOneGrant_5 ?_
  have w_47 : ∀ (t0_47 : Int32) (s_t_47 : Int32 × Int32 × Int32 × Int32 × Int32 × Int32 × Int32 × Int32 × Int32 × Int64), mX4_readOneGrant_b47 s_t_text s_t_read t0_47 s_t_47 = some res → ∀ (ls : Array Slot) (H : Heap) (locs : List Loc), va_P (dC, dI) vwCl [(a_t, .inr (4, [.ref a_t_text, .int s_t_47.1, .int s_t_47.2.1, .ref a_t_paper, .ref a_t_now, .ref a_t_trial, .ref a_t_diary, .int s_t_47.2.2.1, .int s_t_47.2.2.2.1, .ref a_t_kept, .ref a_t_isKept, .ref a_t_seenAt, .int s_t_47.2.2.2.2.1, .long s_t_47.2.2.2.2.2.2.2.2.2, .ref a_t_worth, .int s_t_47.2.2.2.2.2.1, .int s_t_47.2.2.2.2.2.2.1, .ref a_t_readPaper, .ref a_t_read, .int s_t_47.2.2.2.2.2.2.2.1, .int s_t_47.2.2.2.2.2.2.2.2.1])), (a_t_text, .inl (cI, 99, .inl s_t_text)), (a_t_read, .inl (cI, 66, .inl s_t_read))] H → va_D A [(a_t, .inr (4, [.ref a_t_text, .int s_t_47.1, .int s_t_47.2.1, .ref a_t_paper, .ref a_t_now, .ref a_t_trial, .ref a_t_diary, .int s_t_47.2.2.1, .int s_t_47.2.2.2.1, .ref a_t_kept, .ref a_t_isKept, .ref a_t_seenAt, .int s_t_47.2.2.2.2.1, .long s_t_47.2.2.2.2.2.2.2.2.2, .ref a_t_worth, .int s_t_47.2.2.2.2.2.1, .int s_t_47.2.2.2.2.2.2.1, .ref a_t_readPaper, .ref a_t_read, .int s_t_47.2.2.2.2.2.2.2.1, .int s_t_47.2.2.2.2.2.2.2.2.1])), (a_t_text, .inl (cI, 99, .inl s_t_text)), (a_t_read, .inl (cI, 66, .inl s_t_read))] → va_S A s.heap H locs → lv_has ls 4 [(0, .ref a_t)] → W p l e (RM 3 71) s m args below meth c H locs 0 0 Q (F0 m 47 ls [.int t0_47]) := by
    intro t0_47 s_t_47 hM ls H locs hP hD hS hl
    unfold mX4_readOneGrant_b47 at hM
    refine lv_istore_n (lv' := [(1, .int t0_47), (0, .ref a_t)]) hx hb dX4_readOneGrant_47 rfl hl (by decide) rfl (fun ls hl => ?_)
    refine lv_iload_n hx hb dX4_readOneGrant_48 rfl (lv_at hl 0 rfl) ?_
    refine lv_bipush (v := (-9 : Int32)) hx hb dX4_readOneGrant_49 (by decide) ?_
    have w_65 : ∀ (t0_65 : Int32) (s_t_65 : Int32 × Int32 × Int32 × Int32 × Int32 × Int32 × Int32 × Int32 × Int32 × Int64), mX4_readOneGrant_b65 s_t_text s_t_read t0_47 t0_65 s_t_65 = some res → ∀ (ls : Array Slot) (H : Heap) (locs : List Loc), va_P (dC, dI) vwCl [(a_t, .inr (4, [.ref a_t_text, .int s_t_65.1, .int s_t_65.2.1, .ref a_t_paper, .ref a_t_now, .ref a_t_trial, .ref a_t_diary, .int s_t_65.2.2.1, .int s_t_65.2.2.2.1, .ref a_t_kept, .ref a_t_isKept, .ref a_t_seenAt, .int s_t_65.2.2.2.2.1, .long s_t_65.2.2.2.2.2.2.2.2.2, .ref a_t_worth, .int s_t_65.2.2.2.2.2.1, .int s_t_65.2.2.2.2.2.2.1, .ref a_t_readPaper, .ref a_t_read, .int s_t_65.2.2.2.2.2.2.2.1, .int s_t_65.2.2.2.2.2.2.2.2.1])), (a_t_text, .inl (cI, 99, .inl s_t_text)), (a_t_read, .inl (cI, 66, .inl s_t_read))] H → va_D A [(a_t, .inr (4, [.ref a_t_text, .int s_t_65.1, .int s_t_65.2.1, .ref a_t_paper, .ref a_t_now, .ref a_t_trial, .ref a_t_diary, .int s_t_65.2.2.1, .int s_t_65.2.2.2.1, .ref a_t_kept, .ref a_t_isKept, .ref a_t_seenAt, .int s_t_65.2.2.2.2.1, .long s_t_65.2.2.2.2.2.2.2.2.2, .ref a_t_worth, .int s_t_65.2.2.2.2.2.1, .int s_t_65.2.2.2.2.2.2.1, .ref a_t_readPaper, .ref a_t_read, .int s_t_65.2.2.2.2.2.2.2.1, .int s_t_65.2.2.2.2.2.2.2.2.1])), (a_t_text, .inl (cI, 99, .inl s_t_text)), (a_t_read, .inl (cI, 66, .inl s_t_read))] → va_S A s.heap H locs → lv_has ls 4 [(0, .ref a_t), (1, .int t0_47)] → W p l e (RM 3 71) s m args below meth c H locs 0 0 Q (F0 m 65 ls [.int t0_65]) := by
      intro t0_65 s_t_65 hM ls H locs hP hD hS hl
      unfold mX4_readOneGrant_b65 at hM
      refine lv_istore_n (lv' := [(2, .int t0_65), (0, .ref a_t), (1, .int t0_47)]) hx hb dX4_readOneGrant_65 rfl hl (by decide) rfl (fun ls hl => ?_)
      refine lv_iload_n hx hb dX4_readOneGrant_66 rfl (lv_at hl 0 rfl) ?_
      refine lv_bipush (v := (-9 : Int32)) hx hb dX4_readOneGrant_67 (by decide) ?_
      refine lv_icmp_eq (tgt := 79) hx hb dX4_readOneGrant_69 (by decide) (fun c69 => ?_) (fun c69 => ?_)
      · have hM := ite_t c69 hM
        refine lv_iconst (v := (0 : Int32)) hx hb dX4_readOneGrant_79 (by decide) ?_
        cases hM
        exact rt false _ _ _ _ hP hS dX4_readOneGrant_80 rfl
      · have hM := ite_f c69 hM
        refine lv_aload_n hx hb dX4_readOneGrant_72 rfl (lv_at hl 1 rfl) ?_
        obtain ⟨x73, h73, hM⟩ := bind_e hM
        refine muV (As := []) (rest := []) (st2 := [.int (b2i x73.1)]) (nw := [(a_t, .inr (4, [.ref a_t_text, .int x73.2.1, .int x73.2.2.1, .ref a_t_paper, .ref a_t_now, .ref a_t_trial, .ref a_t_diary, .int x73.2.2.2.1, .int x73.2.2.2.2.1, .ref a_t_kept, .ref a_t_isKept, .ref a_t_seenAt, .int x73.2.2.2.2.2.1, .long x73.2.2.2.2.2.2.2.2.2.2, .ref a_t_worth, .int x73.2.2.2.2.2.2.1, .int x73.2.2.2.2.2.2.2.1, .ref a_t_readPaper, .ref a_t_read, .int x73.2.2.2.2.2.2.2.2.1, .int x73.2.2.2.2.2.2.2.2.2.1])), (a_t_text, .inl (cI, 99, .inl s_t_text)), (a_t_read, .inl (cI, 66, .inl s_t_read))]) ⟨hx, hb, hml, hown, hU⟩ hE (okX4_readRange a_t a_t_text a_t_paper a_t_now a_t_trial a_t_diary a_t_kept a_t_isKept a_t_seenAt a_t_worth a_t_readPaper a_t_read s_t_65 s_t_text x73 h73) lk_X4_85 hP hD hS hA [0, 1] rfl rfl rfl rfl rfl rfl hl.1 rfl (Nat.le_of_ble_eq_true rfl) ⟨Nat.le_of_ble_eq_true rfl, Nat.le_of_ble_eq_true rfl⟩ dX4_readOneGrant_73 ⟨Nat.le_refl _, Nat.le_refl _⟩ rfl rfl rfl rfl (fun H locs hP hD hS => ?_)
        refine lv_if_ne (tgt := 81) hx hb dX4_readOneGrant_76 (by decide) (fun c76 => ?_) (fun c76 => ?_)
        · have hM := ite_t (b2i_ne0 c76) hM
          refine lv_aload_n hx hb dX4_readOneGrant_81 rfl (lv_at hl 1 rfl) ?_
          refine lv_aload_n hx hb dX4_readOneGrant_82 rfl (lv_at hl 1 rfl) ?_
          refine va_get (D := (dC, dI)) (ci := 4) (v := .int x73.2.2.2.2.2.2.2.2.2.1) (C := RX4) (T := TX4) (N := 21) hx hb hU inlX4 hown hE.1 hP 0 rfl rfl 20 (by decide) (hU _ u_9_2) (fun _ h9 => h9) rfl dX4_readOneGrant_83 ?_
          refine lv_iconst (v := (5 : Int32)) hx hb dX4_readOneGrant_86 (by decide) ?_
          obtain ⟨x87, h87, hM⟩ := bind_e hM
          refine muV (As := [.int x73.2.2.2.2.2.2.2.2.2.1, .int (5 : Int32)]) (rest := []) (st2 := [.int x87.1]) (nw := [(a_t, .inr (4, [.ref a_t_text, .int x87.2.1, .int x87.2.2.1, .ref a_t_paper, .ref a_t_now, .ref a_t_trial, .ref a_t_diary, .int x87.2.2.2.1, .int x87.2.2.2.2.1, .ref a_t_kept, .ref a_t_isKept, .ref a_t_seenAt, .int x87.2.2.2.2.2.1, .long x87.2.2.2.2.2.2.2.2.2.2, .ref a_t_worth, .int x87.2.2.2.2.2.2.1, .int x87.2.2.2.2.2.2.2.1, .ref a_t_readPaper, .ref a_t_read, .int x87.2.2.2.2.2.2.2.2.1, .int x87.2.2.2.2.2.2.2.2.2.1])), (a_t_text, .inl (cI, 99, .inl s_t_text)), (a_t_read, .inl (cI, 66, .inl s_t_read))]) ⟨hx, hb, hml, hown, hU⟩ hE (okX4_figure a_t a_t_text a_t_paper a_t_now a_t_trial a_t_diary a_t_kept a_t_isKept a_t_seenAt a_t_worth a_t_readPaper a_t_read x73.2 s_t_text x73.2.2.2.2.2.2.2.2.2.1 (5 : Int32) x87 h87) lk_X4_68 hP hD hS hA [0, 1] rfl rfl rfl rfl rfl rfl hl.1 rfl (Nat.le_of_ble_eq_true rfl) ⟨Nat.le_of_ble_eq_true rfl, Nat.le_of_ble_eq_true rfl⟩ dX4_readOneGrant_87 ⟨Nat.le_refl _, Nat.le_refl _⟩ rfl rfl rfl rfl (fun H locs hP hD hS => ?_)
          refine lv_istore_n (lv' := [(3, .int x87.1), (2, .int t0_65), (0, .ref a_t), (1, .int t0_47)]) hx hb dX4_readOneGrant_90 rfl hl (by decide) rfl (fun ls hl => ?_)
          refine lv_iload_n hx hb dX4_readOneGrant_91 rfl (lv_at hl 0 rfl) ?_
          refine lv_bipush (v := (-9 : Int32)) hx hb dX4_readOneGrant_92 (by decide) ?_
          refine lv_icmp_ne (tgt := 99) hx hb dX4_readOneGrant_94 (by decide) (fun c94 => ?_) (fun c94 => ?_)
          · have hM := ite_f c94 hM
            refine lv_aload_n hx hb dX4_readOneGrant_99 rfl (lv_at hl 2 rfl) ?_
            refine va_get (D := (dC, dI)) (ci := 4) (v := .ref a_t_read) (C := RX4) (T := TX4) (N := 21) hx hb hU inlX4 hown hE.1 hP 0 rfl rfl 18 (by decide) (hU _ u_5_0) (fun _ h9 => h9) rfl dX4_readOneGrant_100 ?_
            refine lv_iload_n hx hb dX4_readOneGrant_103 rfl (lv_at hl 3 rfl) ?_
            refine lv_iload_n hx hb dX4_readOneGrant_104 rfl (lv_at hl 1 rfl) ?_
            refine lv_aload_n hx hb dX4_readOneGrant_105 rfl (lv_at hl 2 rfl) ?_
            refine va_get (D := (dC, dI)) (ci := 4) (v := .int x87.2.2.2.2.2.2.2.2.1) (C := RX4) (T := TX4) (N := 21) hx hb hU inlX4 hown hE.1 hP 0 rfl rfl 19 (by decide) (hU _ u_9_1) (fun _ h9 => h9) rfl dX4_readOneGrant_106 ?_
            refine lv_aload_n hx hb dX4_readOneGrant_109 rfl (lv_at hl 2 rfl) ?_
            refine va_get (D := (dC, dI)) (ci := 4) (v := .int x87.2.2.2.2.2.2.2.2.2.1) (C := RX4) (T := TX4) (N := 21) hx hb hU inlX4 hown hE.1 hP 0 rfl rfl 20 (by decide) (hU _ u_9_2) (fun _ h9 => h9) rfl dX4_readOneGrant_110 ?_
            refine lv_iload_n hx hb dX4_readOneGrant_113 rfl (lv_at hl 0 rfl) ?_
            obtain ⟨x114, h114, hM⟩ := bind_e hM
            refine muS (As := [.ref a_t_read, .int t0_47, .int t0_65, .int x87.2.2.2.2.2.2.2.2.1, .int x87.2.2.2.2.2.2.2.2.2.1, .int x87.1]) (rest := []) (st2 := []) (nw := [(a_t, .inr (4, [.ref a_t_text, .int x87.2.1, .int x87.2.2.1, .ref a_t_paper, .ref a_t_now, .ref a_t_trial, .ref a_t_diary, .int x87.2.2.2.1, .int x87.2.2.2.2.1, .ref a_t_kept, .ref a_t_isKept, .ref a_t_seenAt, .int x87.2.2.2.2.2.1, .long x87.2.2.2.2.2.2.2.2.2.2, .ref a_t_worth, .int x87.2.2.2.2.2.2.1, .int x87.2.2.2.2.2.2.2.1, .ref a_t_readPaper, .ref a_t_read, .int x87.2.2.2.2.2.2.2.2.1, .int x87.2.2.2.2.2.2.2.2.2.1])), (a_t_text, .inl (cI, 99, .inl s_t_text)), (a_t_read, .inl (cI, 66, .inl x114))]) ⟨hx, hb, hml, hown, hU⟩ hE (okX4_addGrant a_t_read s_t_read t0_47 t0_65 x87.2.2.2.2.2.2.2.2.1 x87.2.2.2.2.2.2.2.2.2.1 x87.1 x114 h114) lk_X4_89 hP hD hS hA [2] rfl rfl rfl rfl hl.1 rfl (Nat.le_of_ble_eq_true rfl) ⟨Nat.le_of_ble_eq_true rfl, Nat.le_of_ble_eq_true rfl⟩ dX4_readOneGrant_114 ⟨Nat.le_refl _, Nat.le_refl _⟩ rfl rfl rfl rfl (fun H locs hP hD hS => ?_)
            refine lv_iconst (v := (1 : Int32)) hx hb dX4_readOneGrant_117 (by decide) ?_
            cases hM
            exact rt true _ _ _ _ hP hS dX4_readOneGrant_118 rfl
          · have hM := ite_t c94 hM
            refine lv_iconst (v := (0 : Int32)) hx hb dX4_readOneGrant_97 (by decide) ?_
            cases hM
            exact rt false _ _ _ _ hP hS dX4_readOneGrant_98 rfl
        · have hM := ite_f (b2i_eq0 c76) hM
          refine lv_iconst (v := (0 : Int32)) hx hb dX4_readOneGrant_79 (by decide) ?_
          cases hM
          exact rt false _ _ _ _ hP hS dX4_readOneGrant_80 rfl
    refine lv_icmp_ne (tgt := 59) hx hb dX4_readOneGrant_51 (by decide) (fun c51 => ?_) (fun c51 => ?_)
    · have hM := ite_f c51 hM
      refine lv_aload_n hx hb dX4_readOneGrant_59 rfl (lv_at hl 1 rfl) ?_
      refine lv_iconst (v := (0 : Int32)) hx hb dX4_readOneGrant_60 (by decide) ?_
      refine lv_iconst (v := (5 : Int32)) hx hb dX4_readOneGrant_61 (by decide) ?_
      obtain ⟨x62, h62, hM⟩ := bind_e hM
      refine muV (As := [.int (0 : Int32), .int (5 : Int32)]) (rest := []) (st2 := [.int x62.1]) (nw := [(a_t, .inr (4, [.ref a_t_text, .int x62.2.1, .int x62.2.2.1, .ref a_t_paper, .ref a_t_now, .ref a_t_trial, .ref a_t_diary, .int x62.2.2.2.1, .int x62.2.2.2.2.1, .ref a_t_kept, .ref a_t_isKept, .ref a_t_seenAt, .int x62.2.2.2.2.2.1, .long x62.2.2.2.2.2.2.2.2.2.2, .ref a_t_worth, .int x62.2.2.2.2.2.2.1, .int x62.2.2.2.2.2.2.2.1, .ref a_t_readPaper, .ref a_t_read, .int x62.2.2.2.2.2.2.2.2.1, .int x62.2.2.2.2.2.2.2.2.2.1])), (a_t_text, .inl (cI, 99, .inl s_t_text)), (a_t_read, .inl (cI, 66, .inl s_t_read))]) ⟨hx, hb, hml, hown, hU⟩ hE (okX4_figure a_t a_t_text a_t_paper a_t_now a_t_trial a_t_diary a_t_kept a_t_isKept a_t_seenAt a_t_worth a_t_readPaper a_t_read s_t_47 s_t_text (0 : Int32) (5 : Int32) x62 h62) lk_X4_68 hP hD hS hA [0, 1] rfl rfl rfl rfl rfl rfl hl.1 rfl (Nat.le_of_ble_eq_true rfl) ⟨Nat.le_of_ble_eq_true rfl, Nat.le_of_ble_eq_true rfl⟩ dX4_readOneGrant_62 ⟨Nat.le_refl _, Nat.le_refl _⟩ rfl rfl rfl rfl (fun H locs hP hD hS => ?_)
      exact w_65 x62.1 x62.2 hM ls _ _ hP hD hS (lv_sub hl [1, 0] rfl)
    · have hM := ite_t c51 hM
      refine lv_bipush (v := (-9 : Int32)) hx hb dX4_readOneGrant_54 (by decide) ?_
      refine lv_goto (tgt := 65) hx hb dX4_readOneGrant_56 (by decide) ?_
      exact w_65 (-9 : Int32) s_t_47 hM ls _ _ hP hD hS (lv_sub hl [1, 0] rfl)
  have w_36 : mX4_readOneGrant_b36 s_t s_t_text s_t_read = some res → ∀ (ls : Array Slot) (H : Heap) (locs : List Loc), va_P (dC, dI) vwCl [(a_t, .inr (4, [.ref a_t_text, .int s_t.1, .int s_t.2.1, .ref a_t_paper, .ref a_t_now, .ref a_t_trial, .ref a_t_diary, .int s_t.2.2.1, .int s_t.2.2.2.1, .ref a_t_kept, .ref a_t_isKept, .ref a_t_seenAt, .int s_t.2.2.2.2.1, .long s_t.2.2.2.2.2.2.2.2.2, .ref a_t_worth, .int s_t.2.2.2.2.2.1, .int s_t.2.2.2.2.2.2.1, .ref a_t_readPaper, .ref a_t_read, .int s_t.2.2.2.2.2.2.2.1, .int s_t.2.2.2.2.2.2.2.2.1])), (a_t_text, .inl (cI, 99, .inl s_t_text)), (a_t_read, .inl (cI, 66, .inl s_t_read))] H → va_D A [(a_t, .inr (4, [.ref a_t_text, .int s_t.1, .int s_t.2.1, .ref a_t_paper, .ref a_t_now, .ref a_t_trial, .ref a_t_diary, .int s_t.2.2.1, .int s_t.2.2.2.1, .ref a_t_kept, .ref a_t_isKept, .ref a_t_seenAt, .int s_t.2.2.2.2.1, .long s_t.2.2.2.2.2.2.2.2.2, .ref a_t_worth, .int s_t.2.2.2.2.2.1, .int s_t.2.2.2.2.2.2.1, .ref a_t_readPaper, .ref a_t_read, .int s_t.2.2.2.2.2.2.2.1, .int s_t.2.2.2.2.2.2.2.2.1])), (a_t_text, .inl (cI, 99, .inl s_t_text)), (a_t_read, .inl (cI, 66, .inl s_t_read))] → va_S A s.heap H locs → lv_has ls 4 [(0, .ref a_t)] → W p l e (RM 3 71) s m args below meth c H locs 0 0 Q (F0 m 36 ls []) := by
    intro  hM ls H locs hP hD hS hl
    unfold mX4_readOneGrant_b36 at hM
    refine lv_aload_n hx hb dX4_readOneGrant_36 rfl (lv_at hl 0 rfl) ?_
    refine lv_iconst (v := (0 : Int32)) hx hb dX4_readOneGrant_37 (by decide) ?_
    refine lv_aload_n hx hb dX4_readOneGrant_38 rfl (lv_at hl 0 rfl) ?_
    refine va_get (D := (dC, dI)) (ci := 4) (v := .int s_t.2.2.2.2.2.2.1) (C := RX4) (T := TX4) (N := 21) hx hb hU inlX4 hown hE.1 hP 0 rfl rfl 16 (by decide) (hU _ u_8_15) (fun _ h9 => h9) rfl dX4_readOneGrant_39 ?_
    refine lv_iconst (v := (1 : Int32)) hx hb dX4_readOneGrant_42 (by decide) ?_
    refine lv_isub hx hb dX4_readOneGrant_43 ?_
    obtain ⟨x44, h44, hM⟩ := bind_e hM
    refine muV (As := [.int (0 : Int32), .int (s_t.2.2.2.2.2.2.1 - (1 : Int32))]) (rest := []) (st2 := [.int x44.1]) (nw := [(a_t, .inr (4, [.ref a_t_text, .int x44.2.1, .int x44.2.2.1, .ref a_t_paper, .ref a_t_now, .ref a_t_trial, .ref a_t_diary, .int x44.2.2.2.1, .int x44.2.2.2.2.1, .ref a_t_kept, .ref a_t_isKept, .ref a_t_seenAt, .int x44.2.2.2.2.2.1, .long x44.2.2.2.2.2.2.2.2.2.2, .ref a_t_worth, .int x44.2.2.2.2.2.2.1, .int x44.2.2.2.2.2.2.2.1, .ref a_t_readPaper, .ref a_t_read, .int x44.2.2.2.2.2.2.2.2.1, .int x44.2.2.2.2.2.2.2.2.2.1])), (a_t_text, .inl (cI, 99, .inl s_t_text)), (a_t_read, .inl (cI, 66, .inl s_t_read))]) ⟨hx, hb, hml, hown, hU⟩ hE (okX4_figure a_t a_t_text a_t_paper a_t_now a_t_trial a_t_diary a_t_kept a_t_isKept a_t_seenAt a_t_worth a_t_readPaper a_t_read s_t s_t_text (0 : Int32) (s_t.2.2.2.2.2.2.1 - (1 : Int32)) x44 h44) lk_X4_68 hP hD hS hA [0, 1] rfl rfl rfl rfl rfl rfl hl.1 rfl (Nat.le_of_ble_eq_true rfl) ⟨Nat.le_of_ble_eq_true rfl, Nat.le_of_ble_eq_true rfl⟩ dX4_readOneGrant_44 ⟨Nat.le_refl _, Nat.le_refl _⟩ rfl rfl rfl rfl (fun H locs hP hD hS => ?_)
    exact w_47 x44.1 x44.2 hM ls _ _ hP hD hS (lv_sub hl [0] rfl)
  refine lv_icmp_ge (tgt := 36) hx hb dX4_readOneGrant_8 (by decide) (fun c8 => ?_) (fun c8 => ?_)
  · have hM := ite_t c8 hM
    exact w_36  hM ls _ _ hP hD hS (lv_sub hl [0] rfl)
  · have hM := ite_f c8 hM
    refine lv_aload_n hx hb dX4_readOneGrant_11 rfl (lv_at hl 0 rfl) ?_
    refine va_get (D := (dC, dI)) (ci := 4) (v := .ref a_t_text) (C := RX4) (T := TX4) (N := 21) hx hb hU inlX4 hown hE.1 hP 0 rfl rfl 0 (by decide) (hU _ u_4_13) (fun _ h9 => h9) rfl dX4_readOneGrant_12 ?_
    refine lv_aload_n hx hb dX4_readOneGrant_15 rfl (lv_at hl 0 rfl) ?_
    refine va_get (D := (dC, dI)) (ci := 4) (v := .int s_t.2.2.2.2.2.1) (C := RX4) (T := TX4) (N := 21) hx hb hU inlX4 hown hE.1 hP 0 rfl rfl 15 (by decide) (hU _ u_8_16) (fun _ h9 => h9) rfl dX4_readOneGrant_16 ?_
    obtain ⟨g19, hM⟩ := rd_e hM
    refine va_iald hx hb hE.1 hP 1 0 rfl rfl g19 dX4_readOneGrant_19 ?_
    refine lv_bipush (v := (57 : Int32)) hx hb dX4_readOneGrant_20 (by decide) ?_
    refine lv_icmp_ne (tgt := 36) hx hb dX4_readOneGrant_22 (by decide) (fun c22 => ?_) (fun c22 => ?_)
    · have hM := ite_f c22 hM
      exact w_36  hM ls _ _ hP hD hS (lv_sub hl [0] rfl)
    · have hM := ite_t c22 hM
      refine lv_aload_n hx hb dX4_readOneGrant_25 rfl (lv_at hl 0 rfl) ?_
      refine lv_bipush (v := (9 : Int32)) hx hb dX4_readOneGrant_26 (by decide) ?_
      refine lv_bipush (v := (9 : Int32)) hx hb dX4_readOneGrant_28 (by decide) ?_
      obtain ⟨x30, h30, hM⟩ := bind_e hM
      refine muV (As := [.int (9 : Int32), .int (9 : Int32)]) (rest := []) (st2 := [.int x30.1]) (nw := [(a_t, .inr (4, [.ref a_t_text, .int x30.2.1, .int x30.2.2.1, .ref a_t_paper, .ref a_t_now, .ref a_t_trial, .ref a_t_diary, .int x30.2.2.2.1, .int x30.2.2.2.2.1, .ref a_t_kept, .ref a_t_isKept, .ref a_t_seenAt, .int x30.2.2.2.2.2.1, .long x30.2.2.2.2.2.2.2.2.2.2, .ref a_t_worth, .int x30.2.2.2.2.2.2.1, .int x30.2.2.2.2.2.2.2.1, .ref a_t_readPaper, .ref a_t_read, .int x30.2.2.2.2.2.2.2.2.1, .int x30.2.2.2.2.2.2.2.2.2.1])), (a_t_text, .inl (cI, 99, .inl s_t_text)), (a_t_read, .inl (cI, 66, .inl s_t_read))]) ⟨hx, hb, hml, hown, hU⟩ hE (okX4_figure a_t a_t_text a_t_paper a_t_now a_t_trial a_t_diary a_t_kept a_t_isKept a_t_seenAt a_t_worth a_t_readPaper a_t_read s_t s_t_text (9 : Int32) (9 : Int32) x30 h30) lk_X4_68 hP hD hS hA [0, 1] rfl rfl rfl rfl rfl rfl hl.1 rfl (Nat.le_of_ble_eq_true rfl) ⟨Nat.le_of_ble_eq_true rfl, Nat.le_of_ble_eq_true rfl⟩ dX4_readOneGrant_30 ⟨Nat.le_refl _, Nat.le_refl _⟩ rfl rfl rfl rfl (fun H locs hP hD hS => ?_)
      refine lv_goto (tgt := 47) hx hb dX4_readOneGrant_33 (by decide) ?_
      exact w_47 x30.1 x30.2 hM ls _ _ hP hD hS (lv_sub hl [0] rfl)
