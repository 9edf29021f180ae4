section LP
variable {p : Program} {l : Launch} {e : Env} {s : State} {m : MethodId} {below : List Frame} {meth : Method} {c : Code} {dC : Nat → ClassId} {dI : Nat → Nat → Nat} {cI cC cZ : ClassId} {b L : Nat} {xs : Nat → Int32} {a : Nat → Nat} {Q : State → Prop}
set_option maxHeartbeats 4000000 in
set_option maxRecDepth 100000 in
theorem law_loop (hx : p.tables.exec = Jvm.exec) (hb : c.code = cL_law) (hml : c.maxLocals = 4) (hown : s.vm.findClass RL = some m.cls) (hU : ∀ w ∈ wsL_law, w.before #[Value.ref b] s = true) (hE : EV (dC, dI) cI cC cZ s) (hX : va_X b L xs s s.heap) (hbl : b < s.heap.size) (hL : L ≤ 3072) (fin : ∀ (H : Heap) (locs : List Loc) (ls : Array Slot), va_S (fun q : Nat => s.heap.size ≤ q) s.heap H locs → W p l e room_1 s m #[Value.ref b] below meth c H locs 600000 7302250 Q (F0 m 1107 ls [])) : ∀ (n i : Nat) (s_x : Int32 × Int64) (s_x_papers : Int32 × Int32 × Int32) (s_x_papers_cells : Ar) (s_x_now : Int32 × Int32 × Int32) (s_x_now_grants : Int32 × Int32 × Int32) (s_x_now_grants_cells : Ar) (s_x_now_routes : Int32 × Int32 × Int32) (s_x_now_routes_cells : Ar) (s_x_trial : Int32 × Int32 × Int32) (s_x_trial_grants : Int32 × Int32 × Int32) (s_x_trial_grants_cells : Ar) (s_x_trial_routes : Int32 × Int32 × Int32) (s_x_trial_routes_cells : Ar) (s_x_firstSlot : Int32 × Int32 × Int32) (s_x_firstSlot_grants : Int32 × Int32 × Int32) (s_x_firstSlot_grants_cells : Ar) (s_x_firstSlot_routes : Int32 × Int32 × Int32) (s_x_firstSlot_routes_cells : Ar) (s_x_secondSlot : Int32 × Int32 × Int32) (s_x_secondSlot_grants : Int32 × Int32 × Int32) (s_x_secondSlot_grants_cells : Ar) (s_x_secondSlot_routes : Int32 × Int32 × Int32) (s_x_secondSlot_routes_cells : Ar) (s_x_acts : Int32 × Int32 × Int32) (s_x_acts_cells : Ar) (s_x_seen : Int32 × Int32 × Int32) (s_x_seen_cells : Ar) (s_x_text : Int32 × Int32 × Int32) (s_x_text_letters : Nat → Int32) (s_x_text_papers : Int32 × Int32 × Int32) (s_x_text_papers_cells : Ar) (s_x_text_grants : Int32 × Int32 × Int32) (s_x_text_grants_cells : Ar) (s_x_text_routes : Int32 × Int32 × Int32) (s_x_text_routes_cells : Ar) (s_x_doings : Nat → Int32) (s_m : Int32 × Int32 × Int32 × Int32 × Int32 × Int32 × Int32 × Int32 × Int32 × Int64) (s_m_text : Nat → Int32) (s_m_paper : Nat → Int32) (s_m_now : Nat → Int32) (s_m_trial : Nat → Int32) (s_m_diary : Nat → Int32) (s_m_kept : Nat → Int32) (s_m_isKept : Nat → Int32) (s_m_seenAt : Nat → Int32) (s_m_worth : Nat → Int32) (s_m_readPaper : Nat → Int32) (s_m_read : Nat → Int32) (H : Heap) (locs : List Loc) (ls : Array Slot), L - i < n → i ≤ L → Rel s_x s_x_papers s_x_papers_cells s_x_now s_x_now_grants s_x_now_grants_cells s_x_now_routes s_x_now_routes_cells s_x_trial s_x_trial_grants s_x_trial_grants_cells s_x_trial_routes s_x_trial_routes_cells s_x_firstSlot s_x_firstSlot_grants s_x_firstSlot_grants_cells s_x_firstSlot_routes s_x_firstSlot_routes_cells s_x_secondSlot s_x_secondSlot_grants s_x_secondSlot_grants_cells s_x_secondSlot_routes s_x_secondSlot_routes_cells s_x_acts s_x_acts_cells s_x_seen s_x_seen_cells s_x_text s_x_text_letters s_x_text_papers s_x_text_papers_cells s_x_text_grants s_x_text_grants_cells s_x_text_routes s_x_text_routes_cells s_x_doings s_m s_m_text s_m_paper s_m_now s_m_trial s_m_diary s_m_kept s_m_isKept s_m_seenAt s_m_worth s_m_readPaper s_m_read → va_P (dC, dI) vwCl (WL cI cC cZ a s_x s_x_papers s_x_papers_cells s_x_now s_x_now_grants s_x_now_grants_cells s_x_now_routes s_x_now_routes_cells s_x_trial s_x_trial_grants s_x_trial_grants_cells s_x_trial_routes s_x_trial_routes_cells s_x_firstSlot s_x_firstSlot_grants s_x_firstSlot_grants_cells s_x_firstSlot_routes s_x_firstSlot_routes_cells s_x_secondSlot s_x_secondSlot_grants s_x_secondSlot_grants_cells s_x_secondSlot_routes s_x_secondSlot_routes_cells s_x_acts s_x_acts_cells s_x_seen s_x_seen_cells s_x_text s_x_text_letters s_x_text_papers s_x_text_papers_cells s_x_text_grants s_x_text_grants_cells s_x_text_routes s_x_text_routes_cells s_x_doings s_m s_m_text s_m_paper s_m_now s_m_trial s_m_diary s_m_kept s_m_isKept s_m_seenAt s_m_worth s_m_readPaper s_m_read) H → va_D (fun q : Nat => s.heap.size ≤ q) (WL cI cC cZ a s_x s_x_papers s_x_papers_cells s_x_now s_x_now_grants s_x_now_grants_cells s_x_now_routes s_x_now_routes_cells s_x_trial s_x_trial_grants s_x_trial_grants_cells s_x_trial_routes s_x_trial_routes_cells s_x_firstSlot s_x_firstSlot_grants s_x_firstSlot_grants_cells s_x_firstSlot_routes s_x_firstSlot_routes_cells s_x_secondSlot s_x_secondSlot_grants s_x_secondSlot_grants_cells s_x_secondSlot_routes s_x_secondSlot_routes_cells s_x_acts s_x_acts_cells s_x_seen s_x_seen_cells s_x_text s_x_text_letters s_x_text_papers s_x_text_papers_cells s_x_text_grants s_x_text_grants_cells s_x_text_routes s_x_text_routes_cells s_x_doings s_m s_m_text s_m_paper s_m_now s_m_trial s_m_diary s_m_kept s_m_isKept s_m_seenAt s_m_worth s_m_readPaper s_m_read) → va_S (fun q : Nat => s.heap.size ≤ q) s.heap H locs → lv_has ls 4 [(0, .ref b), (1, .ref (a 0)), (2, .ref (a 36)), (3, .int (nI i))] → W p l e room_1 s m #[Value.ref b] below meth c H locs 600000 7302250 Q (F0 m 18 ls []) := by
  have hA : ∀ q : Nat, s.heap.size ≤ q → (fun q : Nat => s.heap.size ≤ q) q := fun _ h => h
  have hbA : ¬ (fun q : Nat => s.heap.size ≤ q) b := Nat.not_le.mpr hbl
  intro n
  induction n with
  | zero => intro i s_x s_x_papers s_x_papers_cells s_x_now s_x_now_grants s_x_now_grants_cells s_x_now_routes s_x_now_routes_cells s_x_trial s_x_trial_grants s_x_trial_grants_cells s_x_trial_routes s_x_trial_routes_cells s_x_firstSlot s_x_firstSlot_grants s_x_firstSlot_grants_cells s_x_firstSlot_routes s_x_firstSlot_routes_cells s_x_secondSlot s_x_secondSlot_grants s_x_secondSlot_grants_cells s_x_secondSlot_routes s_x_secondSlot_routes_cells s_x_acts s_x_acts_cells s_x_seen s_x_seen_cells s_x_text s_x_text_letters s_x_text_papers s_x_text_papers_cells s_x_text_grants s_x_text_grants_cells s_x_text_routes s_x_text_routes_cells s_x_doings s_m s_m_text s_m_paper s_m_now s_m_trial s_m_diary s_m_kept s_m_isKept s_m_seenAt s_m_worth s_m_readPaper s_m_read H locs ls h1; exact absurd h1 (Nat.not_lt_zero _)
  | succ n ih =>
    intro i s_x s_x_papers s_x_papers_cells s_x_now s_x_now_grants s_x_now_grants_cells s_x_now_routes s_x_now_routes_cells s_x_trial s_x_trial_grants s_x_trial_grants_cells s_x_trial_routes s_x_trial_routes_cells s_x_firstSlot s_x_firstSlot_grants s_x_firstSlot_grants_cells s_x_firstSlot_routes s_x_firstSlot_routes_cells s_x_secondSlot s_x_secondSlot_grants s_x_secondSlot_grants_cells s_x_secondSlot_routes s_x_secondSlot_routes_cells s_x_acts s_x_acts_cells s_x_seen s_x_seen_cells s_x_text s_x_text_letters s_x_text_papers s_x_text_papers_cells s_x_text_grants s_x_text_grants_cells s_x_text_routes s_x_text_routes_cells s_x_doings s_m s_m_text s_m_paper s_m_now s_m_trial s_m_diary s_m_kept s_m_isKept s_m_seenAt s_m_worth s_m_readPaper s_m_read H locs ls q1 q2 h hP hD hS hl
    refine lv_iload_n hx hb dL_law_18 rfl (lv_at hl 3 rfl) ?_
    refine lv_aload_n hx hb dL_law_19 rfl (lv_at hl 0 rfl) ?_
    refine va_slen hx hb hX hbl hbA hS dL_law_20 ?_
    refine lv_bipush (v := (6 : Int32)) hx hb dL_law_21 (by decide) ?_
    refine lv_isub hx hb dL_law_23 ?_
    refine lv_icmp_gt (tgt := 1107) hx hb dL_law_24 (by decide) (fun _ => fin H locs ls hS) (fun c9 => ?_)
    have hi6 : i + 6 ≤ L := by
      rcases Nat.lt_or_ge L (i + 6) with z | z
      · refine absurd ?_ c9
        by_cases y : 6 ≤ L
        · rw [show Int32.ofNat L - (6 : Int32) = nI (L - 6) from pk_sub (b := 6) y]
          exact nI_lt (by omega) (by omega)
        · exact Int32.lt_of_lt_of_le (pk_sneg (b := 6) (by decide) (by omega)) (nI_le (a := 0) (Nat.zero_le _) (by omega))
      · exact z
    have nx : ∀ (t_x : Int32 × Int64) (t_x_papers : Int32 × Int32 × Int32) (t_x_papers_cells : Ar) (t_x_now : Int32 × Int32 × Int32) (t_x_now_grants : Int32 × Int32 × Int32) (t_x_now_grants_cells : Ar) (t_x_now_routes : Int32 × Int32 × Int32) (t_x_now_routes_cells : Ar) (t_x_trial : Int32 × Int32 × Int32) (t_x_trial_grants : Int32 × Int32 × Int32) (t_x_trial_grants_cells : Ar) (t_x_trial_routes : Int32 × Int32 × Int32) (t_x_trial_routes_cells : Ar) (t_x_firstSlot : Int32 × Int32 × Int32) (t_x_firstSlot_grants : Int32 × Int32 × Int32) (t_x_firstSlot_grants_cells : Ar) (t_x_firstSlot_routes : Int32 × Int32 × Int32) (t_x_firstSlot_routes_cells : Ar) (t_x_secondSlot : Int32 × Int32 × Int32) (t_x_secondSlot_grants : Int32 × Int32 × Int32) (t_x_secondSlot_grants_cells : Ar) (t_x_secondSlot_routes : Int32 × Int32 × Int32) (t_x_secondSlot_routes_cells : Ar) (t_x_acts : Int32 × Int32 × Int32) (t_x_acts_cells : Ar) (t_x_seen : Int32 × Int32 × Int32) (t_x_seen_cells : Ar) (t_x_text : Int32 × Int32 × Int32) (t_x_text_letters : Nat → Int32) (t_x_text_papers : Int32 × Int32 × Int32) (t_x_text_papers_cells : Ar) (t_x_text_grants : Int32 × Int32 × Int32) (t_x_text_grants_cells : Ar) (t_x_text_routes : Int32 × Int32 × Int32) (t_x_text_routes_cells : Ar) (t_x_doings : Nat → Int32) (t_m : Int32 × Int32 × Int32 × Int32 × Int32 × Int32 × Int32 × Int32 × Int32 × Int64) (t_m_text : Nat → Int32) (t_m_paper : Nat → Int32) (t_m_now : Nat → Int32) (t_m_trial : Nat → Int32) (t_m_diary : Nat → Int32) (t_m_kept : Nat → Int32) (t_m_isKept : Nat → Int32) (t_m_seenAt : Nat → Int32) (t_m_worth : Nat → Int32) (t_m_readPaper : Nat → Int32) (t_m_read : Nat → Int32) (H : Heap) (locs : List Loc), Rel t_x t_x_papers t_x_papers_cells t_x_now t_x_now_grants t_x_now_grants_cells t_x_now_routes t_x_now_routes_cells t_x_trial t_x_trial_grants t_x_trial_grants_cells t_x_trial_routes t_x_trial_routes_cells t_x_firstSlot t_x_firstSlot_grants t_x_firstSlot_grants_cells t_x_firstSlot_routes t_x_firstSlot_routes_cells t_x_secondSlot t_x_secondSlot_grants t_x_secondSlot_grants_cells t_x_secondSlot_routes t_x_secondSlot_routes_cells t_x_acts t_x_acts_cells t_x_seen t_x_seen_cells t_x_text t_x_text_letters t_x_text_papers t_x_text_papers_cells t_x_text_grants t_x_text_grants_cells t_x_text_routes t_x_text_routes_cells t_x_doings t_m t_m_text t_m_paper t_m_now t_m_trial t_m_diary t_m_kept t_m_isKept t_m_seenAt t_m_worth t_m_readPaper t_m_read → va_P (dC, dI) vwCl (WL cI cC cZ a t_x t_x_papers t_x_papers_cells t_x_now t_x_now_grants t_x_now_grants_cells t_x_now_routes t_x_now_routes_cells t_x_trial t_x_trial_grants t_x_trial_grants_cells t_x_trial_routes t_x_trial_routes_cells t_x_firstSlot t_x_firstSlot_grants t_x_firstSlot_grants_cells t_x_firstSlot_routes t_x_firstSlot_routes_cells t_x_secondSlot t_x_secondSlot_grants t_x_secondSlot_grants_cells t_x_secondSlot_routes t_x_secondSlot_routes_cells t_x_acts t_x_acts_cells t_x_seen t_x_seen_cells t_x_text t_x_text_letters t_x_text_papers t_x_text_papers_cells t_x_text_grants t_x_text_grants_cells t_x_text_routes t_x_text_routes_cells t_x_doings t_m t_m_text t_m_paper t_m_now t_m_trial t_m_diary t_m_kept t_m_isKept t_m_seenAt t_m_worth t_m_readPaper t_m_read) H → va_D (fun q : Nat => s.heap.size ≤ q) (WL cI cC cZ a t_x t_x_papers t_x_papers_cells t_x_now t_x_now_grants t_x_now_grants_cells t_x_now_routes t_x_now_routes_cells t_x_trial t_x_trial_grants t_x_trial_grants_cells t_x_trial_routes t_x_trial_routes_cells t_x_firstSlot t_x_firstSlot_grants t_x_firstSlot_grants_cells t_x_firstSlot_routes t_x_firstSlot_routes_cells t_x_secondSlot t_x_secondSlot_grants t_x_secondSlot_grants_cells t_x_secondSlot_routes t_x_secondSlot_routes_cells t_x_acts t_x_acts_cells t_x_seen t_x_seen_cells t_x_text t_x_text_letters t_x_text_papers t_x_text_papers_cells t_x_text_grants t_x_text_grants_cells t_x_text_routes t_x_text_routes_cells t_x_doings t_m t_m_text t_m_paper t_m_now t_m_trial t_m_diary t_m_kept t_m_isKept t_m_seenAt t_m_worth t_m_readPaper t_m_read) → va_S (fun q : Nat => s.heap.size ≤ q) s.heap H locs → W p l e room_1 s m #[Value.ref b] below meth c H locs 600000 7302250 Q (F0 m 1101 ls []) := by
      intro t_x t_x_papers t_x_papers_cells t_x_now t_x_now_grants t_x_now_grants_cells t_x_now_routes t_x_now_routes_cells t_x_trial t_x_trial_grants t_x_trial_grants_cells t_x_trial_routes t_x_trial_routes_cells t_x_firstSlot t_x_firstSlot_grants t_x_firstSlot_grants_cells t_x_firstSlot_routes t_x_firstSlot_routes_cells t_x_secondSlot t_x_secondSlot_grants t_x_secondSlot_grants_cells t_x_secondSlot_routes t_x_secondSlot_routes_cells t_x_acts t_x_acts_cells t_x_seen t_x_seen_cells t_x_text t_x_text_letters t_x_text_papers t_x_text_papers_cells t_x_text_grants t_x_text_grants_cells t_x_text_routes t_x_text_routes_cells t_x_doings t_m t_m_text t_m_paper t_m_now t_m_trial t_m_diary t_m_kept t_m_isKept t_m_seenAt t_m_worth t_m_readPaper t_m_read H locs h hP hD hS
      refine lv_iinc (v := nI (i + 6)) (lv' := [(3, .int (nI (i + 6))), (0, .ref b), (1, .ref (a 0)), (2, .ref (a 36))]) hx hb dL_law_1101 hl (k := 3) rfl (nI_add i 6) (by decide) rfl (fun ls hl => ?_)
      refine lv_goto (tgt := 18) hx hb dL_law_1104 (by decide) ?_
      exact ih (i + 6) t_x t_x_papers t_x_papers_cells t_x_now t_x_now_grants t_x_now_grants_cells t_x_now_routes t_x_now_routes_cells t_x_trial t_x_trial_grants t_x_trial_grants_cells t_x_trial_routes t_x_trial_routes_cells t_x_firstSlot t_x_firstSlot_grants t_x_firstSlot_grants_cells t_x_firstSlot_routes t_x_firstSlot_routes_cells t_x_secondSlot t_x_secondSlot_grants t_x_secondSlot_grants_cells t_x_secondSlot_routes t_x_secondSlot_routes_cells t_x_acts t_x_acts_cells t_x_seen t_x_seen_cells t_x_text t_x_text_letters t_x_text_papers t_x_text_papers_cells t_x_text_grants t_x_text_grants_cells t_x_text_routes t_x_text_routes_cells t_x_doings t_m t_m_text t_m_paper t_m_now t_m_trial t_m_diary t_m_kept t_m_isKept t_m_seenAt t_m_worth t_m_readPaper t_m_read H locs ls (by omega) hi6 h hP hD hS (lv_sub hl [1, 2, 3, 0] rfl)
    have p0 : vp_in (nI i) L := vp_in_nI (by omega) (by omega)
    have p1 : vp_in (nI i + (1 : Int32)) L := by rw [show nI i + (1 : Int32) = nI (i + 1) from nI_add i 1]; exact vp_in_nI (by omega) (by omega)
    have p2 : vp_in (nI i + (2 : Int32)) L := by rw [show nI i + (2 : Int32) = nI (i + 2) from nI_add i 2]; exact vp_in_nI (by omega) (by omega)
    have p3 : vp_in (nI i + (3 : Int32)) L := by rw [show nI i + (3 : Int32) = nI (i + 3) from nI_add i 3]; exact vp_in_nI (by omega) (by omega)
    have p4 : vp_in (nI i + (4 : Int32)) L := by rw [show nI i + (4 : Int32) = nI (i + 4) from nI_add i 4]; exact vp_in_nI (by omega) (by omega)
    have p5 : vp_in (nI i + (5 : Int32)) L := by rw [show nI i + (5 : Int32) = nI (i + 5) from nI_add i 5]; exact vp_in_nI (by omega) (by omega)
    refine lv_aload_n hx hb dL_law_27 rfl (lv_at hl 0 rfl) ?_
    refine lv_iload_n hx hb dL_law_28 rfl (lv_at hl 3 rfl) ?_
    refine va_sld hx hb hX hbl hbA hS p0 dL_law_29 ?_
    refine lv_bipush (v := (31 : Int32)) hx hb dL_law_30 (by decide) ?_
    refine lv_iand hx hb dL_law_32 ?_
    by_cases c0 : (xs (nI i).toNatClampNeg &&& (31 : Int32)) = (0 : Int32)
    · refine lv_tableIn (off := 135) (tgt := 168) hx hb dL_law_33 (by rw [c0]; decide) (by rw [c0]; decide) (by rw [c0]; rfl) (by decide) ?_
      exact law_c0 hx hb hml hown hU hE hX hbl p1 p2 p3 p4 p5 h hP hD hS hl nx
    by_cases c1 : (xs (nI i).toNatClampNeg &&& (31 : Int32)) = (1 : Int32)
    · refine lv_tableIn (off := 158) (tgt := 191) hx hb dL_law_33 (by rw [c1]; decide) (by rw [c1]; decide) (by rw [c1]; rfl) (by decide) ?_
      exact law_c1 hx hb hml hown hU hE hX hbl p1 p2 p3 p4 p5 h hP hD hS hl nx
    by_cases c2 : (xs (nI i).toNatClampNeg &&& (31 : Int32)) = (2 : Int32)
    · refine lv_tableIn (off := 171) (tgt := 204) hx hb dL_law_33 (by rw [c2]; decide) (by rw [c2]; decide) (by rw [c2]; rfl) (by decide) ?_
      exact law_c2 hx hb hml hown hU hE hX hbl p1 p2 p3 p4 p5 h hP hD hS hl nx
    by_cases c3 : (xs (nI i).toNatClampNeg &&& (31 : Int32)) = (3 : Int32)
    · refine lv_tableIn (off := 184) (tgt := 217) hx hb dL_law_33 (by rw [c3]; decide) (by rw [c3]; decide) (by rw [c3]; rfl) (by decide) ?_
      exact law_c3 hx hb hml hown hU hE hX hbl p1 p2 p3 p4 p5 h hP hD hS hl nx
    by_cases c4 : (xs (nI i).toNatClampNeg &&& (31 : Int32)) = (4 : Int32)
    · refine lv_tableIn (off := 197) (tgt := 230) hx hb dL_law_33 (by rw [c4]; decide) (by rw [c4]; decide) (by rw [c4]; rfl) (by decide) ?_
      exact law_c4 hx hb hml hown hU hE hX hbl p1 p2 p3 p4 p5 h hP hD hS hl nx
    by_cases c5 : (xs (nI i).toNatClampNeg &&& (31 : Int32)) = (5 : Int32)
    · refine lv_tableIn (off := 220) (tgt := 253) hx hb dL_law_33 (by rw [c5]; decide) (by rw [c5]; decide) (by rw [c5]; rfl) (by decide) ?_
      exact law_c5 hx hb hml hown hU hE hX hbl p1 p2 p3 p4 p5 h hP hD hS hl nx
    by_cases c6 : (xs (nI i).toNatClampNeg &&& (31 : Int32)) = (6 : Int32)
    · refine lv_tableIn (off := 253) (tgt := 286) hx hb dL_law_33 (by rw [c6]; decide) (by rw [c6]; decide) (by rw [c6]; rfl) (by decide) ?_
      exact law_c6 hx hb hml hown hU hE hX hbl p1 p2 p3 p4 p5 h hP hD hS hl nx
    by_cases c7 : (xs (nI i).toNatClampNeg &&& (31 : Int32)) = (7 : Int32)
    · refine lv_tableIn (off := 286) (tgt := 319) hx hb dL_law_33 (by rw [c7]; decide) (by rw [c7]; decide) (by rw [c7]; rfl) (by decide) ?_
      exact law_c7 hx hb hml hown hU hE hX hbl p1 p2 p3 p4 p5 h hP hD hS hl nx
    by_cases c8 : (xs (nI i).toNatClampNeg &&& (31 : Int32)) = (8 : Int32)
    · refine lv_tableIn (off := 319) (tgt := 352) hx hb dL_law_33 (by rw [c8]; decide) (by rw [c8]; decide) (by rw [c8]; rfl) (by decide) ?_
      exact law_c8 hx hb hml hown hU hE hX hbl p1 p2 p3 p4 p5 h hP hD hS hl nx
    by_cases c9 : (xs (nI i).toNatClampNeg &&& (31 : Int32)) = (9 : Int32)
    · refine lv_tableIn (off := 362) (tgt := 395) hx hb dL_law_33 (by rw [c9]; decide) (by rw [c9]; decide) (by rw [c9]; rfl) (by decide) ?_
      exact law_c9 hx hb hml hown hU hE hX hbl p1 p2 p3 p4 p5 h hP hD hS hl nx
    by_cases c10 : (xs (nI i).toNatClampNeg &&& (31 : Int32)) = (10 : Int32)
    · refine lv_tableIn (off := 385) (tgt := 418) hx hb dL_law_33 (by rw [c10]; decide) (by rw [c10]; decide) (by rw [c10]; rfl) (by decide) ?_
      exact law_c10 hx hb hml hown hU hE hX hbl p1 p2 p3 p4 p5 h hP hD hS hl nx
    by_cases c11 : (xs (nI i).toNatClampNeg &&& (31 : Int32)) = (11 : Int32)
    · refine lv_tableIn (off := 448) (tgt := 481) hx hb dL_law_33 (by rw [c11]; decide) (by rw [c11]; decide) (by rw [c11]; rfl) (by decide) ?_
      exact law_c11 hx hb hml hown hU hE hX hbl p1 p2 p3 p4 p5 h hP hD hS hl nx
    by_cases c12 : (xs (nI i).toNatClampNeg &&& (31 : Int32)) = (12 : Int32)
    · refine lv_tableIn (off := 471) (tgt := 504) hx hb dL_law_33 (by rw [c12]; decide) (by rw [c12]; decide) (by rw [c12]; rfl) (by decide) ?_
      exact law_c12 hx hb hml hown hU hE hX hbl p1 p2 p3 p4 p5 h hP hD hS hl nx
    by_cases c13 : (xs (nI i).toNatClampNeg &&& (31 : Int32)) = (13 : Int32)
    · refine lv_tableIn (off := 494) (tgt := 527) hx hb dL_law_33 (by rw [c13]; decide) (by rw [c13]; decide) (by rw [c13]; rfl) (by decide) ?_
      exact law_c13 hx hb hml hown hU hE hX hbl p1 p2 p3 p4 p5 h hP hD hS hl nx
    by_cases c14 : (xs (nI i).toNatClampNeg &&& (31 : Int32)) = (14 : Int32)
    · refine lv_tableIn (off := 507) (tgt := 540) hx hb dL_law_33 (by rw [c14]; decide) (by rw [c14]; decide) (by rw [c14]; rfl) (by decide) ?_
      exact law_c14 hx hb hml hown hU hE hX hbl p1 p2 p3 p4 p5 h hP hD hS hl nx
    by_cases c15 : (xs (nI i).toNatClampNeg &&& (31 : Int32)) = (15 : Int32)
    · refine lv_tableIn (off := 530) (tgt := 563) hx hb dL_law_33 (by rw [c15]; decide) (by rw [c15]; decide) (by rw [c15]; rfl) (by decide) ?_
      exact law_c15 hx hb hml hown hU hE hX hbl p1 p2 p3 p4 p5 h hP hD hS hl nx
    by_cases c16 : (xs (nI i).toNatClampNeg &&& (31 : Int32)) = (16 : Int32)
    · refine lv_tableIn (off := 543) (tgt := 576) hx hb dL_law_33 (by rw [c16]; decide) (by rw [c16]; decide) (by rw [c16]; rfl) (by decide) ?_
      exact law_c16 hx hb hml hown hU hE hX hbl p1 p2 p3 p4 p5 h hP hD hS hl nx
    by_cases c17 : (xs (nI i).toNatClampNeg &&& (31 : Int32)) = (17 : Int32)
    · refine lv_tableIn (off := 586) (tgt := 619) hx hb dL_law_33 (by rw [c17]; decide) (by rw [c17]; decide) (by rw [c17]; rfl) (by decide) ?_
      exact law_c17 hx hb hml hown hU hE hX hbl p1 p2 p3 p4 p5 h hP hD hS hl nx
    by_cases c18 : (xs (nI i).toNatClampNeg &&& (31 : Int32)) = (18 : Int32)
    · refine lv_tableIn (off := 619) (tgt := 652) hx hb dL_law_33 (by rw [c18]; decide) (by rw [c18]; decide) (by rw [c18]; rfl) (by decide) ?_
      exact law_c18 hx hb hml hown hU hE hX hbl p1 p2 p3 p4 p5 h hP hD hS hl nx
    by_cases c19 : (xs (nI i).toNatClampNeg &&& (31 : Int32)) = (19 : Int32)
    · refine lv_tableIn (off := 662) (tgt := 695) hx hb dL_law_33 (by rw [c19]; decide) (by rw [c19]; decide) (by rw [c19]; rfl) (by decide) ?_
      exact law_c19 hx hb hml hown hU hE hX hbl p1 p2 p3 p4 p5 h hP hD hS hl nx
    by_cases c20 : (xs (nI i).toNatClampNeg &&& (31 : Int32)) = (20 : Int32)
    · refine lv_tableIn (off := 685) (tgt := 718) hx hb dL_law_33 (by rw [c20]; decide) (by rw [c20]; decide) (by rw [c20]; rfl) (by decide) ?_
      exact law_c20 hx hb hml hown hU hE hX hbl p1 p2 p3 p4 p5 h hP hD hS hl nx
    by_cases c21 : (xs (nI i).toNatClampNeg &&& (31 : Int32)) = (21 : Int32)
    · refine lv_tableIn (off := 748) (tgt := 781) hx hb dL_law_33 (by rw [c21]; decide) (by rw [c21]; decide) (by rw [c21]; rfl) (by decide) ?_
      exact law_c21 hx hb hml hown hU hE hX hbl p1 p2 p3 p4 p5 h hP hD hS hl nx
    by_cases c22 : (xs (nI i).toNatClampNeg &&& (31 : Int32)) = (22 : Int32)
    · refine lv_tableIn (off := 801) (tgt := 834) hx hb dL_law_33 (by rw [c22]; decide) (by rw [c22]; decide) (by rw [c22]; rfl) (by decide) ?_
      exact law_c22 hx hb hml hown hU hE hX hbl p1 p2 p3 p4 p5 h hP hD hS hl nx
    by_cases c23 : (xs (nI i).toNatClampNeg &&& (31 : Int32)) = (23 : Int32)
    · refine lv_tableIn (off := 814) (tgt := 847) hx hb dL_law_33 (by rw [c23]; decide) (by rw [c23]; decide) (by rw [c23]; rfl) (by decide) ?_
      exact law_c23 hx hb hml hown hU hE hX hbl p1 p2 p3 p4 p5 h hP hD hS hl nx
    by_cases c24 : (xs (nI i).toNatClampNeg &&& (31 : Int32)) = (24 : Int32)
    · refine lv_tableIn (off := 837) (tgt := 870) hx hb dL_law_33 (by rw [c24]; decide) (by rw [c24]; decide) (by rw [c24]; rfl) (by decide) ?_
      exact law_c24 hx hb hml hown hU hE hX hbl p1 p2 p3 p4 p5 h hP hD hS hl nx
    by_cases c25 : (xs (nI i).toNatClampNeg &&& (31 : Int32)) = (25 : Int32)
    · refine lv_tableIn (off := 886) (tgt := 919) hx hb dL_law_33 (by rw [c25]; decide) (by rw [c25]; decide) (by rw [c25]; rfl) (by decide) ?_
      exact law_c25 hx hb hml hown hU hE hX hbl p1 p2 p3 p4 p5 h hP hD hS hl nx
    by_cases c26 : (xs (nI i).toNatClampNeg &&& (31 : Int32)) = (26 : Int32)
    · refine lv_tableIn (off := 945) (tgt := 978) hx hb dL_law_33 (by rw [c26]; decide) (by rw [c26]; decide) (by rw [c26]; rfl) (by decide) ?_
      exact law_c26 hx hb hml hown hU hE hX hbl p1 p2 p3 p4 p5 h hP hD hS hl nx
    by_cases c27 : (xs (nI i).toNatClampNeg &&& (31 : Int32)) = (27 : Int32)
    · refine lv_tableIn (off := 999) (tgt := 1032) hx hb dL_law_33 (by rw [c27]; decide) (by rw [c27]; decide) (by rw [c27]; rfl) (by decide) ?_
      exact law_c27 hx hb hml hown hU hE hX hbl p1 p2 p3 p4 p5 h hP hD hS hl nx
    by_cases c28 : (xs (nI i).toNatClampNeg &&& (31 : Int32)) = (28 : Int32)
    · refine lv_tableIn (off := 1022) (tgt := 1055) hx hb dL_law_33 (by rw [c28]; decide) (by rw [c28]; decide) (by rw [c28]; rfl) (by decide) ?_
      exact law_c28 hx hb hml hown hU hE hX hbl p1 p2 p3 p4 p5 h hP hD hS hl nx
    by_cases c29 : (xs (nI i).toNatClampNeg &&& (31 : Int32)) = (29 : Int32)
    · refine lv_tableIn (off := 1045) (tgt := 1078) hx hb dL_law_33 (by rw [c29]; decide) (by rw [c29]; decide) (by rw [c29]; rfl) (by decide) ?_
      exact law_c29 hx hb hml hown hU hE hX hbl p1 p2 p3 p4 p5 h hP hD hS hl nx
    refine lv_tableOut (tgt := 1101) hx hb dL_law_33 (sw_out (fun v h1 h2 h3 => by rcases (show v = 0 ∨ v = 1 ∨ v = 2 ∨ v = 3 ∨ v = 4 ∨ v = 5 ∨ v = 6 ∨ v = 7 ∨ v = 8 ∨ v = 9 ∨ v = 10 ∨ v = 11 ∨ v = 12 ∨ v = 13 ∨ v = 14 ∨ v = 15 ∨ v = 16 ∨ v = 17 ∨ v = 18 ∨ v = 19 ∨ v = 20 ∨ v = 21 ∨ v = 22 ∨ v = 23 ∨ v = 24 ∨ v = 25 ∨ v = 26 ∨ v = 27 ∨ v = 28 ∨ v = 29 by omega) with rfl | rfl | rfl | rfl | rfl | rfl | rfl | rfl | rfl | rfl | rfl | rfl | rfl | rfl | rfl | rfl | rfl | rfl | rfl | rfl | rfl | rfl | rfl | rfl | rfl | rfl | rfl | rfl | rfl | rfl <;> first | exact c0 (Int32.toInt_inj.mp (h3.trans (by decide))) | exact c1 (Int32.toInt_inj.mp (h3.trans (by decide))) | exact c2 (Int32.toInt_inj.mp (h3.trans (by decide))) | exact c3 (Int32.toInt_inj.mp (h3.trans (by decide))) | exact c4 (Int32.toInt_inj.mp (h3.trans (by decide))) | exact c5 (Int32.toInt_inj.mp (h3.trans (by decide))) | exact c6 (Int32.toInt_inj.mp (h3.trans (by decide))) | exact c7 (Int32.toInt_inj.mp (h3.trans (by decide))) | exact c8 (Int32.toInt_inj.mp (h3.trans (by decide))) | exact c9 (Int32.toInt_inj.mp (h3.trans (by decide))) | exact c10 (Int32.toInt_inj.mp (h3.trans (by decide))) | exact c11 (Int32.toInt_inj.mp (h3.trans (by decide))) | exact c12 (Int32.toInt_inj.mp (h3.trans (by decide))) | exact c13 (Int32.toInt_inj.mp (h3.trans (by decide))) | exact c14 (Int32.toInt_inj.mp (h3.trans (by decide))) | exact c15 (Int32.toInt_inj.mp (h3.trans (by decide))) | exact c16 (Int32.toInt_inj.mp (h3.trans (by decide))) | exact c17 (Int32.toInt_inj.mp (h3.trans (by decide))) | exact c18 (Int32.toInt_inj.mp (h3.trans (by decide))) | exact c19 (Int32.toInt_inj.mp (h3.trans (by decide))) | exact c20 (Int32.toInt_inj.mp (h3.trans (by decide))) | exact c21 (Int32.toInt_inj.mp (h3.trans (by decide))) | exact c22 (Int32.toInt_inj.mp (h3.trans (by decide))) | exact c23 (Int32.toInt_inj.mp (h3.trans (by decide))) | exact c24 (Int32.toInt_inj.mp (h3.trans (by decide))) | exact c25 (Int32.toInt_inj.mp (h3.trans (by decide))) | exact c26 (Int32.toInt_inj.mp (h3.trans (by decide))) | exact c27 (Int32.toInt_inj.mp (h3.trans (by decide))) | exact c28 (Int32.toInt_inj.mp (h3.trans (by decide))) | exact c29 (Int32.toInt_inj.mp (h3.trans (by decide))))) (by decide) ?_
    exact nx _ _ _ _ _ _ _ _ _ _ _ _ _ _ _ _ _ _ _ _ _ _ _ _ _ _ _ _ _ _ _ _ _ _ _ _ _ _ _ _ _ _ _ _ _ _ _ _ H locs h hP hD hS
end LP
