theorem Rd.ofR {l : Launch} {D : va_G} {cI cC cZ : ClassId} {b : ByteArray} {n fr lo : Nat} {y : MethodName} {w : va_W} {As : List Value} {v : Option Value} {C : String} (hy : plainName y.cls = true) (hn : (lg_sl As).length ≤ n) (lv : List (Nat × Value)) (hlv : lv_args 0 As = lv)
    (body : ∀ (p : Program) (e : Env) (s : State) (m : MethodId) (args : Array Value) (below : List Frame) (meth : Method) (c : Code) (ls : Array Slot) (Q : State → Prop), p.tables.exec = Jvm.exec → c.code = b → c.maxLocals = n → s.vm.findClass y.cls = some m.cls → (∀ w ∈ wsL_law, w.before args s = true) → EV D cI cC cZ s → va_P D vwCl w s.heap →
      (∀ (r : Nat) (pc : Nat) (ls : Array Slot), decode b pc = .ok (.areturn, 1) → some (Value.ref r) = v → W p l e (RM fr lo) s m args below meth c s.heap [] 0 0 Q (F0 m pc ls [.ref r])) → lv_has ls n lv → W p l e (RM fr lo) s m args below meth c s.heap [] 0 0 Q (F0 m 0 ls [])) : Rd l y b n (some (.object C)) fr lo D cI cC cZ w As v :=
  Rd.of hy hn lv hlv (fun p e s m below meth c ls hx hb hr hml hown hU hlk hE hP hl => body p e s m As.toArray below meth c ls _ hx hb hml hown hU hE hP (fun r pc ls hd hv => W.aret hx hb hr (Or.inl ⟨_, rfl⟩) (Or.inr ⟨_, rfl⟩) (fun t ht hW => ⟨by rw [hv], ht⟩) (fun q hq => by cases hq) hd hlk) hl)
set_option maxHeartbeats 4000000 in
set_option maxRecDepth 100000 in
theorem okX3_slotBooks_0 {l : Launch} {dC : Nat → ClassId} {dI : Nat → Nat → Nat} {cI cC cZ : ClassId} (a_t a_t_papers a_t_now a_t_trial a_t_firstSlot a_t_secondSlot a_t_acts a_t_seen a_t_text a_t_doings : Nat) (s_t : Int32 × Int64) (v1 : Int32) (h : v1 = 0) : Rd l yX3_slotBooks cX3_slotBooks 2 (some (.object "RangePapers$Books")) 0 0 (dC, dI) cI cC cZ [(a_t, .inr (3, [.ref a_t_papers, .ref a_t_now, .ref a_t_trial, .ref a_t_firstSlot, .ref a_t_secondSlot, .ref a_t_acts, .ref a_t_seen, .ref a_t_text, .ref a_t_doings, .int s_t.1, .long s_t.2]))] [.ref a_t, .int v1] (some (.ref a_t_firstSlot)) := by
  refine Rd.ofR (by decide) (Nat.le_of_ble_eq_true rfl) [(0, .ref a_t), (1, .int v1)] rfl ?_
  intro p e s m args below meth c ls Q hx hb hml hown hU hE hP rt hl
  have hown : s.vm.findClass RX3 = some m.cls := hown
  refine lv_iload_n hx hb dX3_slotBooks_0 rfl (lv_at hl 1 rfl) ?_
  refine lv_if_ne (tgt := 11) hx hb dX3_slotBooks_1 (by decide) (fun c1 => ?_) (fun c1 => ?_)
  · exact absurd h c1
  · refine lv_aload_n hx hb dX3_slotBooks_4 rfl (lv_at hl 0 rfl) ?_
    refine va_get (D := (dC, dI)) (ci := 3) (v := .ref a_t_firstSlot) (C := RX3) (T := TX3) (N := 11) hx hb hU inlX3 hown hE.1 hP 0 rfl rfl 3 (by decide) (hU _ u_1_22) (fun _ h9 => h9) rfl dX3_slotBooks_5 ?_
    refine lv_goto (tgt := 15) hx hb dX3_slotBooks_8 (by decide) ?_
    exact rt _ _ _ dX3_slotBooks_15 rfl
set_option maxHeartbeats 4000000 in
set_option maxRecDepth 100000 in
theorem okX3_slotBooks_1 {l : Launch} {dC : Nat → ClassId} {dI : Nat → Nat → Nat} {cI cC cZ : ClassId} (a_t a_t_papers a_t_now a_t_trial a_t_firstSlot a_t_secondSlot a_t_acts a_t_seen a_t_text a_t_doings : Nat) (s_t : Int32 × Int64) (v1 : Int32) (h : ¬ v1 = 0) : Rd l yX3_slotBooks cX3_slotBooks 2 (some (.object "RangePapers$Books")) 0 0 (dC, dI) cI cC cZ [(a_t, .inr (3, [.ref a_t_papers, .ref a_t_now, .ref a_t_trial, .ref a_t_firstSlot, .ref a_t_secondSlot, .ref a_t_acts, .ref a_t_seen, .ref a_t_text, .ref a_t_doings, .int s_t.1, .long s_t.2]))] [.ref a_t, .int v1] (some (.ref a_t_secondSlot)) := by
  refine Rd.ofR (by decide) (Nat.le_of_ble_eq_true rfl) [(0, .ref a_t), (1, .int v1)] rfl ?_
  intro p e s m args below meth c ls Q hx hb hml hown hU hE hP rt hl
  have hown : s.vm.findClass RX3 = some m.cls := hown
  refine lv_iload_n hx hb dX3_slotBooks_0 rfl (lv_at hl 1 rfl) ?_
  refine lv_if_ne (tgt := 11) hx hb dX3_slotBooks_1 (by decide) (fun c1 => ?_) (fun c1 => ?_)
  · refine lv_aload_n hx hb dX3_slotBooks_11 rfl (lv_at hl 0 rfl) ?_
    refine va_get (D := (dC, dI)) (ci := 3) (v := .ref a_t_secondSlot) (C := RX3) (T := TX3) (N := 11) hx hb hU inlX3 hown hE.1 hP 0 rfl rfl 4 (by decide) (hU _ u_1_23) (fun _ h9 => h9) rfl dX3_slotBooks_12 ?_
    exact rt _ _ _ dX3_slotBooks_15 rfl
  · exact absurd c1 h
