theorem wf_push {P : List PN} {bk : Bk} {hs : List Bk} {k0 k1 : Option Bk} {sn : List SN} {t : Nat → Int32} {len nx : Nat} (h : WF P bk hs k0 k1 sn t len nx) {b : Bk} (hb : bkOk P.length b) : WF P b (hcut hs ++ [bk]) k0 k1 sn t len ((nx + 1) % 14) := by
  obtain ⟨wP, wB, wh1, wh2, wk0, wk1, ws1, ws2, wl1, wl2, wn⟩ := h
  refine ⟨wP, hb, ?_, fun j hj => ?_, wk0, wk1, ws1, ws2, wl1, wl2, Nat.mod_lt _ (by decide)⟩
  · have := hcut_len wh1
    rw [List.length_append]
    exact this
  · rw [List.length_append] at hj
    have hj' : j < (hcut hs).length + 1 := hj
    by_cases z : j = (hcut hs).length
    · subst z; rw [hA_eq]; exact wB
    · rw [hA_lt _ _ (by omega)]
      exact hcut_ok wh2 j (by omega)
theorem bit_v (x : Int32) (i : Nat) : mX3_bit x (nI i) = some ((x >>> (nI i &&& 31)) &&& 1) := rfl
section L2
variable {s_x : Int32 × Int64} {s_x_papers : Int32 × Int32 × Int32} {s_x_papers_cells : Ar} {s_x_now : Int32 × Int32 × Int32} {s_x_now_grants : Int32 × Int32 × Int32} {s_x_now_grants_cells : Ar} {s_x_now_routes : Int32 × Int32 × Int32} {s_x_now_routes_cells : Ar} {s_x_trial : Int32 × Int32 × Int32} {s_x_trial_grants : Int32 × Int32 × Int32} {s_x_trial_grants_cells : Ar} {s_x_trial_routes : Int32 × Int32 × Int32} {s_x_trial_routes_cells : Ar} {s_x_firstSlot : Int32 × Int32 × Int32} {s_x_firstSlot_grants : Int32 × Int32 × Int32} {s_x_firstSlot_grants_cells : Ar} {s_x_firstSlot_routes : Int32 × Int32 × Int32} {s_x_firstSlot_routes_cells : Ar} {s_x_secondSlot : Int32 × Int32 × Int32} {s_x_secondSlot_grants : Int32 × Int32 × Int32} {s_x_secondSlot_grants_cells : Ar} {s_x_secondSlot_routes : Int32 × Int32 × Int32} {s_x_secondSlot_routes_cells : Ar} {s_x_acts : Int32 × Int32 × Int32} {s_x_acts_cells : Ar} {s_x_seen : Int32 × Int32 × Int32} {s_x_seen_cells : Ar} {s_x_text : Int32 × Int32 × Int32} {s_x_text_letters : Nat → Int32} {s_x_text_papers : Int32 × Int32 × Int32} {s_x_text_papers_cells : Ar} {s_x_text_grants : Int32 × Int32 × Int32} {s_x_text_grants_cells : Ar} {s_x_text_routes : Int32 × Int32 × Int32} {s_x_text_routes_cells : Ar} {s_x_doings : Nat → Int32} {s_m : Int32 × Int32 × Int32 × Int32 × Int32 × Int32 × Int32 × Int32 × Int32 × Int64} {s_m_text : Nat → Int32} {s_m_paper : Nat → Int32} {s_m_now : Nat → Int32} {s_m_trial : Nat → Int32} {s_m_diary : Nat → Int32} {s_m_kept : Nat → Int32} {s_m_isKept : Nat → Int32} {s_m_seenAt : Nat → Int32} {s_m_worth : Nat → Int32} {s_m_readPaper : Nat → Int32} {s_m_read : Nat → Int32}
set_option maxHeartbeats 1000000 in
theorem L_announce (h : Rel s_x s_x_papers s_x_papers_cells s_x_now s_x_now_grants s_x_now_grants_cells s_x_now_routes s_x_now_routes_cells s_x_trial s_x_trial_grants s_x_trial_grants_cells s_x_trial_routes s_x_trial_routes_cells s_x_firstSlot s_x_firstSlot_grants s_x_firstSlot_grants_cells s_x_firstSlot_routes s_x_firstSlot_routes_cells s_x_secondSlot s_x_secondSlot_grants s_x_secondSlot_grants_cells s_x_secondSlot_routes s_x_secondSlot_routes_cells s_x_acts s_x_acts_cells s_x_seen s_x_seen_cells s_x_text s_x_text_letters s_x_text_papers s_x_text_papers_cells s_x_text_grants s_x_text_grants_cells s_x_text_routes s_x_text_routes_cells s_x_doings s_m s_m_text s_m_paper s_m_now s_m_trial s_m_diary s_m_kept s_m_isKept s_m_seenAt s_m_worth s_m_readPaper s_m_read) (v1 : Int32) (v2 : Int32) (v3 : Int32) : ∃ (rx : Int32 × (Int32 × Int32 × Int32) × Ar × (Int32 × Int32 × Int32) × Ar) (rm : Int32 × (Int32 × Int32 × Int32 × Int32 × Int32 × Int32 × Int32 × Int32 × Int32 × Int64) × (Nat → Int32) × (Nat → Int32)), mX3_announce s_x_now_routes s_x_now_routes_cells s_x_acts s_x_acts_cells v1 v2 v3 = some rx ∧ mX4_announce s_m s_m_now s_m_diary v1 v2 v3 = some rm ∧ rx.1 = rm.1 ∧ Rel s_x s_x_papers s_x_papers_cells s_x_now s_x_now_grants s_x_now_grants_cells rx.2.1 rx.2.2.1 s_x_trial s_x_trial_grants s_x_trial_grants_cells s_x_trial_routes s_x_trial_routes_cells s_x_firstSlot s_x_firstSlot_grants s_x_firstSlot_grants_cells s_x_firstSlot_routes s_x_firstSlot_routes_cells s_x_secondSlot s_x_secondSlot_grants s_x_secondSlot_grants_cells s_x_secondSlot_routes s_x_secondSlot_routes_cells rx.2.2.2.1 rx.2.2.2.2 s_x_seen s_x_seen_cells s_x_text s_x_text_letters s_x_text_papers s_x_text_papers_cells s_x_text_grants s_x_text_grants_cells s_x_text_routes s_x_text_routes_cells s_x_doings rm.2.1 s_m_text s_m_paper rm.2.2.1 s_m_trial rm.2.2.2 s_m_kept s_m_isKept s_m_seenAt s_m_worth s_m_readPaper s_m_read := by
  obtain ⟨P, bk, hs, k0, k1, sn, t, len, nx, hW, hC, hR⟩ := id h
  obtain ⟨wP, wB, wh1, wh2, wk0, wk1, ws1, ws2, wl1, wl2, wn⟩ := id hW
  obtain ⟨bG1, bR1, bG, bR, bD⟩ := id wB
  obtain ⟨cP, cN, cT, cK0, cK1, cA, cS, cX, cW, cM⟩ := id hC
  obtain ⟨cb, cg, cr⟩ := id cN
  obtain ⟨rM, rX, rP, rN, rD, rK, rS⟩ := id hR
  obtain ⟨m1, m2, m3, m4, m5, m6⟩ := id rM
  obtain ⟨n1, n2, z0, zg, z41, zr, z63, z64, z65⟩ := id rN
  have hday : bk.2.2.2.2 < 2 ^ 31 := by omega
  rcases rng_any v1 v2 with ⟨s, l, hv, rfl, rfl, e1, e2⟩ | ⟨e1, e2⟩
  · have hl := hv.1
    rcases org_any v3 with ⟨o, ho, rfl, f1, f2⟩ | ⟨f1, f2⟩
    · by_cases hn : bk.2.1.length < 6
      · obtain ⟨o1, a1, ea, ra⟩ := cr.add (by omega) (s, l, o) (show l < 2 ^ 31 by omega)
        obtain ⟨o2, a2, cell', er, rr, q0, q1, q2⟩ := rem_ok cA wh1 1 (nI bk.2.1.length)
        obtain ⟨g', en, hD⟩ := note_ok m3 m4 wh1 wn rD rN
        obtain ⟨f', ef, hf⟩ := addRoute_r rN (by omega) (s, l, o)
        refine ⟨(nI bk.2.1.length, o1, a1, o2, a2), (nI bk.2.1.length, (s_m.1, s_m.2.1, nI (hcut hs ++ [bk]).length, nI ((nx + 1) % 14), s_m.2.2.2.2.1, s_m.2.2.2.2.2.1, s_m.2.2.2.2.2.2.1, s_m.2.2.2.2.2.2.2.1, s_m.2.2.2.2.2.2.2.2.1, s_m.2.2.2.2.2.2.2.2.2), f', g'), ?_, ?_, rfl, P, (bk.1, bk.2.1 ++ [(s, l, o)], bk.2.2), hcut hs ++ [bk], k0, k1, sn, t, len, (nx + 1) % 14, wf_push hW ⟨bG1, by rw [List.length_append]; exact hn, bG, rok_app bR ⟨hv, ho⟩, bD⟩, ⟨cP, ⟨cb, cg, ra⟩, cT, cK0, cK1, q2 _ _ _ _ rr (fun _ _ _ _ => rfl) (Or.inl ⟨q0, q1, _, rfl⟩), cS, cX, cW, cM⟩, ⟨m1, m2, rfl, rfl, m5, m6⟩, rX, rP, hf, hD, rK, rS⟩
        · unfold mX3_announce
          rw [e1, Option.bind_some, if_pos rfl, f1, Option.bind_some, if_pos rfl, cr.cnt, L6, if_pos (nI_lt hn (by decide)), show mX1_addRange s_x_now_routes s_x_now_routes_cells (nI s) (nI l) (nI o) (0 : Int32) (0 : Int32) = some (nI bk.2.1.length, o1, a1) from ea, Option.bind_some]
          dsimp only
          rw [er, Option.bind_some]
        · unfold mX4_announce
          rw [e2, Option.bind_some, if_pos rfl, f2, Option.bind_some, if_pos rfl, L41, rd_ok rfl (by decide) (by decide), z41, if_neg (show ¬ nI bk.2.1.length = (6 : Int32) from fun z => by rw [L6, nI_eq (by omega) (by decide)] at z; omega), en, Option.bind_some, show mX4_addRoute s_m_now (nI s) (nI l) (nI o) = some f' from ef, Option.bind_some, rd_ok rfl (by decide) (by decide), hf.2.2.2.2.1, List.length_append, show bk.2.1.length + [(s, l, o)].length = bk.2.1.length + 1 from rfl, nI_pred]
      · have h6 : bk.2.1.length = 6 := by omega
        refine ⟨(-4, s_x_now_routes, s_x_now_routes_cells, s_x_acts, s_x_acts_cells), (-4, s_m, s_m_now, s_m_diary), ?_, ?_, rfl, h⟩
        · unfold mX3_announce
          rw [e1, Option.bind_some, if_pos rfl, f1, Option.bind_some, if_pos rfl, cr.cnt, h6, if_neg (by decide)]
        · unfold mX4_announce
          rw [e2, Option.bind_some, if_pos rfl, f2, Option.bind_some, if_pos rfl, L41, rd_ok rfl (by decide) (by decide), z41, h6, if_pos (by decide)]
    · refine ⟨(-1, s_x_now_routes, s_x_now_routes_cells, s_x_acts, s_x_acts_cells), (-1, s_m, s_m_now, s_m_diary), by unfold mX3_announce; rw [e1, Option.bind_some, if_pos rfl, f1]; rfl, by unfold mX4_announce; rw [e2, Option.bind_some, if_pos rfl, f2]; rfl, rfl, h⟩
  · refine ⟨(-2, s_x_now_routes, s_x_now_routes_cells, s_x_acts, s_x_acts_cells), (-2, s_m, s_m_now, s_m_diary), by unfold mX3_announce; rw [e1]; rfl, by unfold mX4_announce; rw [e2]; rfl, rfl, h⟩
set_option maxHeartbeats 1000000 in
theorem L_withdraw (h : Rel s_x s_x_papers s_x_papers_cells s_x_now s_x_now_grants s_x_now_grants_cells s_x_now_routes s_x_now_routes_cells s_x_trial s_x_trial_grants s_x_trial_grants_cells s_x_trial_routes s_x_trial_routes_cells s_x_firstSlot s_x_firstSlot_grants s_x_firstSlot_grants_cells s_x_firstSlot_routes s_x_firstSlot_routes_cells s_x_secondSlot s_x_secondSlot_grants s_x_secondSlot_grants_cells s_x_secondSlot_routes s_x_secondSlot_routes_cells s_x_acts s_x_acts_cells s_x_seen s_x_seen_cells s_x_text s_x_text_letters s_x_text_papers s_x_text_papers_cells s_x_text_grants s_x_text_grants_cells s_x_text_routes s_x_text_routes_cells s_x_doings s_m s_m_text s_m_paper s_m_now s_m_trial s_m_diary s_m_kept s_m_isKept s_m_seenAt s_m_worth s_m_readPaper s_m_read) (v1 : Int32) : ∃ (rx : Int32 × (Int32 × Int32 × Int32) × (Int32 × Int32 × Int32) × Ar × Ar) (rm : Int32 × (Int32 × Int32 × Int32 × Int32 × Int32 × Int32 × Int32 × Int32 × Int32 × Int64) × (Nat → Int32) × (Nat → Int32)), mX3_withdraw s_x_now_routes s_x_acts s_x_acts_cells s_x_now_routes_cells v1 = some rx ∧ mX4_withdraw s_m s_m_now s_m_diary v1 = some rm ∧ rx.1 = rm.1 ∧ Rel s_x s_x_papers s_x_papers_cells s_x_now s_x_now_grants s_x_now_grants_cells rx.2.1 rx.2.2.2.2 s_x_trial s_x_trial_grants s_x_trial_grants_cells s_x_trial_routes s_x_trial_routes_cells s_x_firstSlot s_x_firstSlot_grants s_x_firstSlot_grants_cells s_x_firstSlot_routes s_x_firstSlot_routes_cells s_x_secondSlot s_x_secondSlot_grants s_x_secondSlot_grants_cells s_x_secondSlot_routes s_x_secondSlot_routes_cells rx.2.2.1 rx.2.2.2.1 s_x_seen s_x_seen_cells s_x_text s_x_text_letters s_x_text_papers s_x_text_papers_cells s_x_text_grants s_x_text_grants_cells s_x_text_routes s_x_text_routes_cells s_x_doings rm.2.1 s_m_text s_m_paper rm.2.2.1 s_m_trial rm.2.2.2 s_m_kept s_m_isKept s_m_seenAt s_m_worth s_m_readPaper s_m_read := by
  obtain ⟨P, bk, hs, k0, k1, sn, t, len, nx, hW, hC, hR⟩ := id h
  obtain ⟨wP, wB, wh1, wh2, wk0, wk1, ws1, ws2, wl1, wl2, wn⟩ := id hW
  obtain ⟨bG1, bR1, bG, bR, bD⟩ := id wB
  obtain ⟨cP, cN, cT, cK0, cK1, cA, cS, cX, cW, cM⟩ := id hC
  obtain ⟨cb, cg, cr⟩ := id cN
  obtain ⟨rM, rX, rP, rN, rD, rK, rS⟩ := id hR
  obtain ⟨m1, m2, m3, m4, m5, m6⟩ := id rM
  obtain ⟨n1, n2, z0, zg, z41, zr, z63, z64, z65⟩ := id rN
  have hday : bk.2.2.2.2 < 2 ^ 31 := by omega
  have e4 := isRoute_r rN v1
  rcases idx_both cr v1 with ⟨i, hi, rfl, e1, e2⟩ | ⟨hne, e1, e2⟩
  · rw [e2] at e4
    obtain ⟨o1, a1, ec, rc⟩ := cr.close hi
    obtain ⟨o2, a2, er, hA2⟩ := remRow_ok cA wh1 2 cr (by decide) hi (bk.1, bk.2.1.eraseIdx i, bk.2.2) (fun c h0 h1 h2 => Or.inr (Or.inl ⟨h0, i, hi, h1, h2, rfl⟩))
    obtain ⟨g', en, hD⟩ := note_ok m3 m4 wh1 wn rD rN
    obtain ⟨f', ef, hf⟩ := takeRoute_r rN hi
    refine ⟨(o1.2.2, o1, o2, a2, a1), (nI (bk.2.1.eraseIdx i).length, (s_m.1, s_m.2.1, nI (hcut hs ++ [bk]).length, nI ((nx + 1) % 14), s_m.2.2.2.2.1, s_m.2.2.2.2.2.1, s_m.2.2.2.2.2.2.1, s_m.2.2.2.2.2.2.2.1, s_m.2.2.2.2.2.2.2.2.1, s_m.2.2.2.2.2.2.2.2.2), f', g'), ?_, ?_, rc.cnt, P, (bk.1, bk.2.1.eraseIdx i, bk.2.2), hcut hs ++ [bk], k0, k1, sn, t, len, (nx + 1) % 14, wf_push hW ⟨bG1, by rw [er_len hi]; omega, bG, fun k hk => ?_, bD⟩, ⟨cP, ⟨cb, cg, rc⟩, cT, cK0, cK1, hA2, cS, cX, cW, cM⟩, ⟨m1, m2, rfl, rfl, m5, m6⟩, rX, rP, hf, hD, rK, rS⟩
    · unfold mX3_withdraw
      rw [e1, Option.bind_some, if_pos rfl, er, Option.bind_some, ec, Option.bind_some]
    · unfold mX4_withdraw
      rw [e4, Option.bind_some, if_pos rfl, en, Option.bind_some, ef, Option.bind_some, L41, rd_ok rfl (by decide) (by decide), hf.2.2.2.2.1]
    · rw [er_len hi] at hk
      unfold rA
      rw [gd_er]
      by_cases z : k < i
      · rw [if_pos z]; exact bR k (by omega)
      · rw [if_neg z]; exact bR (k + 1) (by omega)
  · rw [e2] at e4
    refine ⟨(-1, s_x_now_routes, s_x_acts, s_x_acts_cells, s_x_now_routes_cells), (-1, s_m, s_m_now, s_m_diary), by unfold mX3_withdraw; rw [e1]; rfl, by unfold mX4_withdraw; rw [e4]; rfl, rfl, h⟩
set_option maxHeartbeats 1000000 in
theorem L_tear (h : Rel s_x s_x_papers s_x_papers_cells s_x_now s_x_now_grants s_x_now_grants_cells s_x_now_routes s_x_now_routes_cells s_x_trial s_x_trial_grants s_x_trial_grants_cells s_x_trial_routes s_x_trial_routes_cells s_x_firstSlot s_x_firstSlot_grants s_x_firstSlot_grants_cells s_x_firstSlot_routes s_x_firstSlot_routes_cells s_x_secondSlot s_x_secondSlot_grants s_x_secondSlot_grants_cells s_x_secondSlot_routes s_x_secondSlot_routes_cells s_x_acts s_x_acts_cells s_x_seen s_x_seen_cells s_x_text s_x_text_letters s_x_text_papers s_x_text_papers_cells s_x_text_grants s_x_text_grants_cells s_x_text_routes s_x_text_routes_cells s_x_doings s_m s_m_text s_m_paper s_m_now s_m_trial s_m_diary s_m_kept s_m_isKept s_m_seenAt s_m_worth s_m_readPaper s_m_read) (v1 : Int32) : ∃ (rx : Int32 × (Int32 × Int32 × Int32) × (Int32 × Int32 × Int32) × Ar × Ar) (rm : Int32 × (Int32 × Int32 × Int32 × Int32 × Int32 × Int32 × Int32 × Int32 × Int32 × Int64) × (Nat → Int32) × (Nat → Int32)), mX3_tear s_x_now_grants s_x_acts s_x_acts_cells s_x_now_grants_cells v1 = some rx ∧ mX4_tear s_m s_m_now s_m_diary v1 = some rm ∧ rx.1 = rm.1 ∧ Rel s_x s_x_papers s_x_papers_cells s_x_now rx.2.1 rx.2.2.2.2 s_x_now_routes s_x_now_routes_cells s_x_trial s_x_trial_grants s_x_trial_grants_cells s_x_trial_routes s_x_trial_routes_cells s_x_firstSlot s_x_firstSlot_grants s_x_firstSlot_grants_cells s_x_firstSlot_routes s_x_firstSlot_routes_cells s_x_secondSlot s_x_secondSlot_grants s_x_secondSlot_grants_cells s_x_secondSlot_routes s_x_secondSlot_routes_cells rx.2.2.1 rx.2.2.2.1 s_x_seen s_x_seen_cells s_x_text s_x_text_letters s_x_text_papers s_x_text_papers_cells s_x_text_grants s_x_text_grants_cells s_x_text_routes s_x_text_routes_cells s_x_doings rm.2.1 s_m_text s_m_paper rm.2.2.1 s_m_trial rm.2.2.2 s_m_kept s_m_isKept s_m_seenAt s_m_worth s_m_readPaper s_m_read := by
  obtain ⟨P, bk, hs, k0, k1, sn, t, len, nx, hW, hC, hR⟩ := id h
  obtain ⟨wP, wB, wh1, wh2, wk0, wk1, ws1, ws2, wl1, wl2, wn⟩ := id hW
  obtain ⟨bG1, bR1, bG, bR, bD⟩ := id wB
  obtain ⟨cP, cN, cT, cK0, cK1, cA, cS, cX, cW, cM⟩ := id hC
  obtain ⟨cb, cg, cr⟩ := id cN
  obtain ⟨rM, rX, rP, rN, rD, rK, rS⟩ := id hR
  obtain ⟨m1, m2, m3, m4, m5, m6⟩ := id rM
  obtain ⟨n1, n2, z0, zg, z41, zr, z63, z64, z65⟩ := id rN
  have hday : bk.2.2.2.2 < 2 ^ 31 := by omega
  have e4 := isGrant_r rN v1
  rcases idx_both cg v1 with ⟨i, hi, rfl, e1, e2⟩ | ⟨hne, e1, e2⟩
  · rw [e2] at e4
    obtain ⟨o1, a1, ec, rc⟩ := cg.close hi
    obtain ⟨o2, a2, er, hA2⟩ := remRow_ok cA wh1 4 cg (by decide) hi (bk.1.eraseIdx i, bk.2) (fun c h0 h1 h2 => Or.inr (Or.inr (Or.inr (Or.inl ⟨h0, i, hi, h1, h2, rfl⟩))))
    obtain ⟨g', en, hD⟩ := note_ok m3 m4 wh1 wn rD rN
    obtain ⟨f', ef, hf⟩ := takeGrant_r rN hi
    refine ⟨(o1.2.2, o1, o2, a2, a1), (nI (bk.1.eraseIdx i).length, (s_m.1, s_m.2.1, nI (hcut hs ++ [bk]).length, nI ((nx + 1) % 14), s_m.2.2.2.2.1, s_m.2.2.2.2.2.1, s_m.2.2.2.2.2.2.1, s_m.2.2.2.2.2.2.2.1, s_m.2.2.2.2.2.2.2.2.1, s_m.2.2.2.2.2.2.2.2.2), f', g'), ?_, ?_, rc.cnt, P, (bk.1.eraseIdx i, bk.2), hcut hs ++ [bk], k0, k1, sn, t, len, (nx + 1) % 14, wf_push hW ⟨by rw [er_len hi]; omega, bR1, fun k hk => ?_, bR, bD⟩, ⟨cP, ⟨cb, rc, cr⟩, cT, cK0, cK1, hA2, cS, cX, cW, cM⟩, ⟨m1, m2, rfl, rfl, m5, m6⟩, rX, rP, hf, hD, rK, rS⟩
    · unfold mX3_tear
      rw [e1, Option.bind_some, if_pos rfl, er, Option.bind_some, ec, Option.bind_some]
    · unfold mX4_tear
      rw [e4, Option.bind_some, if_pos rfl, en, Option.bind_some, ef, Option.bind_some, L0, rd_ok rfl (by decide) (by decide), hf.2.2.1]
    · rw [er_len hi] at hk
      unfold gA
      rw [gd_er]
      by_cases z : k < i
      · rw [if_pos z]; exact bG k (by omega)
      · rw [if_neg z]; exact bG (k + 1) (by omega)
  · rw [e2] at e4
    refine ⟨(-1, s_x_now_grants, s_x_acts, s_x_acts_cells, s_x_now_grants_cells), (-1, s_m, s_m_now, s_m_diary), by unfold mX3_tear; rw [e1]; rfl, by unfold mX4_tear; rw [e4]; rfl, rfl, h⟩
set_option maxHeartbeats 1000000 in
theorem L_revoke (h : Rel s_x s_x_papers s_x_papers_cells s_x_now s_x_now_grants s_x_now_grants_cells s_x_now_routes s_x_now_routes_cells s_x_trial s_x_trial_grants s_x_trial_grants_cells s_x_trial_routes s_x_trial_routes_cells s_x_firstSlot s_x_firstSlot_grants s_x_firstSlot_grants_cells s_x_firstSlot_routes s_x_firstSlot_routes_cells s_x_secondSlot s_x_secondSlot_grants s_x_secondSlot_grants_cells s_x_secondSlot_routes s_x_secondSlot_routes_cells s_x_acts s_x_acts_cells s_x_seen s_x_seen_cells s_x_text s_x_text_letters s_x_text_papers s_x_text_papers_cells s_x_text_grants s_x_text_grants_cells s_x_text_routes s_x_text_routes_cells s_x_doings s_m s_m_text s_m_paper s_m_now s_m_trial s_m_diary s_m_kept s_m_isKept s_m_seenAt s_m_worth s_m_readPaper s_m_read) (v1 : Int32) : ∃ (rx : Int32 × (Int32 × Int32 × Int32) × (Int32 × Int32 × Int32) × Ar) (rm : Int32 × (Int32 × Int32 × Int32 × Int32 × Int32 × Int32 × Int32 × Int32 × Int32 × Int64) × (Nat → Int32) × (Nat → Int32)), mX3_revoke s_x_papers s_x_now s_x_acts s_x_acts_cells v1 = some rx ∧ mX4_revoke s_m s_m_now s_m_diary v1 = some rm ∧ rx.1 = rm.1 ∧ Rel s_x s_x_papers s_x_papers_cells rx.2.1 s_x_now_grants s_x_now_grants_cells s_x_now_routes s_x_now_routes_cells s_x_trial s_x_trial_grants s_x_trial_grants_cells s_x_trial_routes s_x_trial_routes_cells s_x_firstSlot s_x_firstSlot_grants s_x_firstSlot_grants_cells s_x_firstSlot_routes s_x_firstSlot_routes_cells s_x_secondSlot s_x_secondSlot_grants s_x_secondSlot_grants_cells s_x_secondSlot_routes s_x_secondSlot_routes_cells rx.2.2.1 rx.2.2.2 s_x_seen s_x_seen_cells s_x_text s_x_text_letters s_x_text_papers s_x_text_papers_cells s_x_text_grants s_x_text_grants_cells s_x_text_routes s_x_text_routes_cells s_x_doings rm.2.1 s_m_text s_m_paper rm.2.2.1 s_m_trial rm.2.2.2 s_m_kept s_m_isKept s_m_seenAt s_m_worth s_m_readPaper s_m_read := by
  obtain ⟨P, bk, hs, k0, k1, sn, t, len, nx, hW, hC, hR⟩ := id h
  obtain ⟨wP, wB, wh1, wh2, wk0, wk1, ws1, ws2, wl1, wl2, wn⟩ := id hW
  obtain ⟨bG1, bR1, bG, bR, bD⟩ := id wB
  obtain ⟨cP, cN, cT, cK0, cK1, cA, cS, cX, cW, cM⟩ := id hC
  obtain ⟨cb, cg, cr⟩ := id cN
  obtain ⟨rM, rX, rP, rN, rD, rK, rS⟩ := id hR
  obtain ⟨m1, m2, m3, m4, m5, m6⟩ := id rM
  obtain ⟨n1, n2, z0, zg, z41, zr, z63, z64, z65⟩ := id rN
  have hday : bk.2.2.2.2 < 2 ^ 31 := by omega
  have e4 := isPaper_r m2 v1
  by_cases c0 : v1 = 0
  · refine ⟨(-1, s_x_now, s_x_acts, s_x_acts_cells), (-1, s_m, s_m_now, s_m_diary), by unfold mX3_revoke; rw [if_pos c0], ?_, rfl, h⟩
    unfold mX4_revoke
    rw [e4]
    rcases idx_any v1 (n := P.length) (by have := wP.2.1; omega) with ⟨i, hi, rfl, e2⟩ | ⟨hne, e2⟩
    · rw [e2, Option.bind_some, if_pos rfl, if_pos c0]
    · rw [e2, Option.bind_some, if_neg (by decide)]
  · rcases idx_both cP v1 with ⟨i, hi, rfl, e1, e2⟩ | ⟨hne, e1, e2⟩
    · have hP6 := wP.2.1
      obtain ⟨o2, a2, cell', er, rr, q0, q1, q2⟩ := rem_ok cA wh1 5 (nI i)
      obtain ⟨g', en, hD⟩ := note_ok m3 m4 wh1 wn rD rN
      have hf := RowR.rev rN (bk.2.2.1 ^^^ ((1 : Int32) <<< (nI i &&& 31)))
      have b1 : s_x_now.1 = bk.2.2.1 := by rw [cb]
      refine ⟨(((bk.2.2.1 ^^^ ((1 : Int32) <<< (nI i &&& 31))) >>> (nI i &&& 31)) &&& 1, (bk.2.2.1 ^^^ ((1 : Int32) <<< (nI i &&& 31)), s_x_now.2.1, s_x_now.2.2), o2, a2), (((bk.2.2.1 ^^^ ((1 : Int32) <<< (nI i &&& 31))) >>> (nI i &&& 31)) &&& 1, (s_m.1, s_m.2.1, nI (hcut hs ++ [bk]).length, nI ((nx + 1) % 14), s_m.2.2.2.2.1, s_m.2.2.2.2.2.1, s_m.2.2.2.2.2.2.1, s_m.2.2.2.2.2.2.2.1, s_m.2.2.2.2.2.2.2.2.1, s_m.2.2.2.2.2.2.2.2.2), upd s_m_now 63 (bk.2.2.1 ^^^ ((1 : Int32) <<< (nI i &&& 31))), g'), ?_, ?_, rfl, P, (bk.1, bk.2.1, bk.2.2.1 ^^^ ((1 : Int32) <<< (nI i &&& 31)), bk.2.2.2), hcut hs ++ [bk], k0, k1, sn, t, len, (nx + 1) % 14, wf_push hW ⟨bG1, bR1, bG, bR, bD⟩, ⟨cP, ⟨by rw [cb], cg, cr⟩, cT, cK0, cK1, q2 _ _ _ _ rr (fun _ _ _ _ => rfl) (Or.inr (Or.inr (Or.inr (Or.inr (Or.inl ⟨q0, i, by omega, q1, rfl⟩))))), cS, cX, cW, cM⟩, ⟨m1, m2, rfl, rfl, m5, m6⟩, rX, rP, hf, hD, rK, rS⟩
      · unfold mX3_revoke
        rw [if_neg c0, e1, Option.bind_some, if_pos rfl, er, Option.bind_some, b1, bit_v, Option.bind_some]
      · unfold mX4_revoke
        rw [e4, e2, Option.bind_some, if_pos rfl, if_neg c0, en, Option.bind_some, L63, rd_ok rfl (by decide) (by decide), z63, wr_ok rfl (by decide) (by decide), rd_ok rfl (by decide) (by decide), pk_us]
    · refine ⟨(-1, s_x_now, s_x_acts, s_x_acts_cells), (-1, s_m, s_m_now, s_m_diary), by unfold mX3_revoke; rw [if_neg c0, e1]; rfl, by unfold mX4_revoke; rw [e4, e2]; rfl, rfl, h⟩
set_option maxHeartbeats 1000000 in
theorem L_setAside (h : Rel s_x s_x_papers s_x_papers_cells s_x_now s_x_now_grants s_x_now_grants_cells s_x_now_routes s_x_now_routes_cells s_x_trial s_x_trial_grants s_x_trial_grants_cells s_x_trial_routes s_x_trial_routes_cells s_x_firstSlot s_x_firstSlot_grants s_x_firstSlot_grants_cells s_x_firstSlot_routes s_x_firstSlot_routes_cells s_x_secondSlot s_x_secondSlot_grants s_x_secondSlot_grants_cells s_x_secondSlot_routes s_x_secondSlot_routes_cells s_x_acts s_x_acts_cells s_x_seen s_x_seen_cells s_x_text s_x_text_letters s_x_text_papers s_x_text_papers_cells s_x_text_grants s_x_text_grants_cells s_x_text_routes s_x_text_routes_cells s_x_doings s_m s_m_text s_m_paper s_m_now s_m_trial s_m_diary s_m_kept s_m_isKept s_m_seenAt s_m_worth s_m_readPaper s_m_read) (v1 : Int32) : ∃ (rx : Int32 × (Int32 × Int32 × Int32) × (Int32 × Int32 × Int32) × Ar) (rm : Int32 × (Int32 × Int32 × Int32 × Int32 × Int32 × Int32 × Int32 × Int32 × Int32 × Int64) × (Nat → Int32) × (Nat → Int32)), mX3_setAside s_x_now s_x_acts s_x_acts_cells v1 = some rx ∧ mX4_setAside s_m s_m_now s_m_diary v1 = some rm ∧ rx.1 = rm.1 ∧ Rel s_x s_x_papers s_x_papers_cells rx.2.1 s_x_now_grants s_x_now_grants_cells s_x_now_routes s_x_now_routes_cells s_x_trial s_x_trial_grants s_x_trial_grants_cells s_x_trial_routes s_x_trial_routes_cells s_x_firstSlot s_x_firstSlot_grants s_x_firstSlot_grants_cells s_x_firstSlot_routes s_x_firstSlot_routes_cells s_x_secondSlot s_x_secondSlot_grants s_x_secondSlot_grants_cells s_x_secondSlot_routes s_x_secondSlot_routes_cells rx.2.2.1 rx.2.2.2 s_x_seen s_x_seen_cells s_x_text s_x_text_letters s_x_text_papers s_x_text_papers_cells s_x_text_grants s_x_text_grants_cells s_x_text_routes s_x_text_routes_cells s_x_doings rm.2.1 s_m_text s_m_paper rm.2.2.1 s_m_trial rm.2.2.2 s_m_kept s_m_isKept s_m_seenAt s_m_worth s_m_readPaper s_m_read := by
  obtain ⟨P, bk, hs, k0, k1, sn, t, len, nx, hW, hC, hR⟩ := id h
  obtain ⟨wP, wB, wh1, wh2, wk0, wk1, ws1, ws2, wl1, wl2, wn⟩ := id hW
  obtain ⟨bG1, bR1, bG, bR, bD⟩ := id wB
  obtain ⟨cP, cN, cT, cK0, cK1, cA, cS, cX, cW, cM⟩ := id hC
  obtain ⟨cb, cg, cr⟩ := id cN
  obtain ⟨rM, rX, rP, rN, rD, rK, rS⟩ := id hR
  obtain ⟨m1, m2, m3, m4, m5, m6⟩ := id rM
  obtain ⟨n1, n2, z0, zg, z41, zr, z63, z64, z65⟩ := id rN
  have hday : bk.2.2.2.2 < 2 ^ 31 := by omega
  rcases org_any v1 with ⟨i, hi, rfl, e1, e2⟩ | ⟨e1, e2⟩
  · obtain ⟨o2, a2, cell', er, rr, q0, q1, q2⟩ := rem_ok cA wh1 7 (nI i)
    obtain ⟨g', en, hD⟩ := note_ok m3 m4 wh1 wn rD rN
    have hf := RowR.asd rN (bk.2.2.2.1 ^^^ ((1 : Int32) <<< (nI i &&& 31)))
    have b1 : s_x_now.2.1 = bk.2.2.2.1 := by rw [cb]
    refine ⟨(((bk.2.2.2.1 ^^^ ((1 : Int32) <<< (nI i &&& 31))) >>> (nI i &&& 31)) &&& 1, (s_x_now.1, bk.2.2.2.1 ^^^ ((1 : Int32) <<< (nI i &&& 31)), s_x_now.2.2), o2, a2), (((bk.2.2.2.1 ^^^ ((1 : Int32) <<< (nI i &&& 31))) >>> (nI i &&& 31)) &&& 1, (s_m.1, s_m.2.1, nI (hcut hs ++ [bk]).length, nI ((nx + 1) % 14), s_m.2.2.2.2.1, s_m.2.2.2.2.2.1, s_m.2.2.2.2.2.2.1, s_m.2.2.2.2.2.2.2.1, s_m.2.2.2.2.2.2.2.2.1, s_m.2.2.2.2.2.2.2.2.2), upd s_m_now 64 (bk.2.2.2.1 ^^^ ((1 : Int32) <<< (nI i &&& 31))), g'), ?_, ?_, rfl, P, (bk.1, bk.2.1, bk.2.2.1, bk.2.2.2.1 ^^^ ((1 : Int32) <<< (nI i &&& 31)), bk.2.2.2.2), hcut hs ++ [bk], k0, k1, sn, t, len, (nx + 1) % 14, wf_push hW ⟨bG1, bR1, bG, bR, bD⟩, ⟨cP, ⟨by rw [cb], cg, cr⟩, cT, cK0, cK1, q2 _ _ _ _ rr (fun _ _ _ _ => rfl) (Or.inr (Or.inr (Or.inr (Or.inr (Or.inr (Or.inr ⟨q0, i, hi, q1, rfl⟩)))))), cS, cX, cW, cM⟩, ⟨m1, m2, rfl, rfl, m5, m6⟩, rX, rP, hf, hD, rK, rS⟩
    · unfold mX3_setAside
      rw [e1, Option.bind_some, if_pos rfl, b1, bnd_eq, er, Option.bind_some, bit_v, Option.bind_some]
    · unfold mX4_setAside
      rw [e2, Option.bind_some, if_pos rfl, en, Option.bind_some, L64, rd_ok rfl (by decide) (by decide), z64, wr_ok rfl (by decide) (by decide), rd_ok rfl (by decide) (by decide), pk_us]
  · refine ⟨(-1, s_x_now, s_x_acts, s_x_acts_cells), (-1, s_m, s_m_now, s_m_diary), by unfold mX3_setAside; rw [e1]; rfl, by unfold mX4_setAside; rw [e2]; rfl, rfl, h⟩
set_option maxHeartbeats 1000000 in
theorem L_night (h : Rel s_x s_x_papers s_x_papers_cells s_x_now s_x_now_grants s_x_now_grants_cells s_x_now_routes s_x_now_routes_cells s_x_trial s_x_trial_grants s_x_trial_grants_cells s_x_trial_routes s_x_trial_routes_cells s_x_firstSlot s_x_firstSlot_grants s_x_firstSlot_grants_cells s_x_firstSlot_routes s_x_firstSlot_routes_cells s_x_secondSlot s_x_secondSlot_grants s_x_secondSlot_grants_cells s_x_secondSlot_routes s_x_secondSlot_routes_cells s_x_acts s_x_acts_cells s_x_seen s_x_seen_cells s_x_text s_x_text_letters s_x_text_papers s_x_text_papers_cells s_x_text_grants s_x_text_grants_cells s_x_text_routes s_x_text_routes_cells s_x_doings s_m s_m_text s_m_paper s_m_now s_m_trial s_m_diary s_m_kept s_m_isKept s_m_seenAt s_m_worth s_m_readPaper s_m_read)  : ∃ (rx : Int32 × (Int32 × Int32 × Int32) × (Int32 × Int32 × Int32) × Ar) (rm : Int32 × (Int32 × Int32 × Int32 × Int32 × Int32 × Int32 × Int32 × Int32 × Int32 × Int64) × (Nat → Int32) × (Nat → Int32)), mX3_night s_x_now s_x_acts s_x_acts_cells = some rx ∧ mX4_night s_m s_m_now s_m_diary = some rm ∧ rx.1 = rm.1 ∧ Rel s_x s_x_papers s_x_papers_cells rx.2.1 s_x_now_grants s_x_now_grants_cells s_x_now_routes s_x_now_routes_cells s_x_trial s_x_trial_grants s_x_trial_grants_cells s_x_trial_routes s_x_trial_routes_cells s_x_firstSlot s_x_firstSlot_grants s_x_firstSlot_grants_cells s_x_firstSlot_routes s_x_firstSlot_routes_cells s_x_secondSlot s_x_secondSlot_grants s_x_secondSlot_grants_cells s_x_secondSlot_routes s_x_secondSlot_routes_cells rx.2.2.1 rx.2.2.2 s_x_seen s_x_seen_cells s_x_text s_x_text_letters s_x_text_papers s_x_text_papers_cells s_x_text_grants s_x_text_grants_cells s_x_text_routes s_x_text_routes_cells s_x_doings rm.2.1 s_m_text s_m_paper rm.2.2.1 s_m_trial rm.2.2.2 s_m_kept s_m_isKept s_m_seenAt s_m_worth s_m_readPaper s_m_read := by
  obtain ⟨P, bk, hs, k0, k1, sn, t, len, nx, hW, hC, hR⟩ := id h
  obtain ⟨wP, wB, wh1, wh2, wk0, wk1, ws1, ws2, wl1, wl2, wn⟩ := id hW
  obtain ⟨bG1, bR1, bG, bR, bD⟩ := id wB
  obtain ⟨cP, cN, cT, cK0, cK1, cA, cS, cX, cW, cM⟩ := id hC
  obtain ⟨cb, cg, cr⟩ := id cN
  obtain ⟨rM, rX, rP, rN, rD, rK, rS⟩ := id hR
  obtain ⟨m1, m2, m3, m4, m5, m6⟩ := id rM
  obtain ⟨n1, n2, z0, zg, z41, zr, z63, z64, z65⟩ := id rN
  have hday : bk.2.2.2.2 < 2 ^ 31 := by omega
  have b1 : s_x_now.2.2 = nI bk.2.2.2.2 := by rw [cb]
  by_cases hn : bk.2.2.2.2 < 9
  · obtain ⟨o2, a2, cell', er, rr, q0, q1, q2⟩ := rem_ok cA wh1 6 0
    obtain ⟨g', en, hD⟩ := note_ok m3 m4 wh1 wn rD rN
    have hf := RowR.dayTo rN (bk.2.2.2.2 + 1)
    refine ⟨(nI (bk.2.2.2.2 + 1), (s_x_now.1, s_x_now.2.1, nI (bk.2.2.2.2 + 1)), o2, a2), (nI (bk.2.2.2.2 + 1), (s_m.1, s_m.2.1, nI (hcut hs ++ [bk]).length, nI ((nx + 1) % 14), s_m.2.2.2.2.1, s_m.2.2.2.2.2.1, s_m.2.2.2.2.2.2.1, s_m.2.2.2.2.2.2.2.1, s_m.2.2.2.2.2.2.2.2.1, s_m.2.2.2.2.2.2.2.2.2), upd s_m_now 65 (nI (bk.2.2.2.2 + 1)), g'), ?_, ?_, rfl, P, (bk.1, bk.2.1, bk.2.2.1, bk.2.2.2.1, bk.2.2.2.2 + 1), hcut hs ++ [bk], k0, k1, sn, t, len, (nx + 1) % 14, wf_push hW ⟨bG1, bR1, bG, bR, hn⟩, ⟨cP, ⟨by rw [cb], cg, cr⟩, cT, cK0, cK1, q2 _ _ _ _ rr (fun _ _ _ _ => rfl) (Or.inr (Or.inr (Or.inr (Or.inr (Or.inr (Or.inl ⟨q0, rfl⟩)))))), cS, cX, cW, cM⟩, ⟨m1, m2, rfl, rfl, m5, m6⟩, rX, rP, hf, hD, rK, rS⟩
    · unfold mX3_night
      rw [b1, L9, if_pos (nI_lt hn (by decide)), er, Option.bind_some, nI_1]
    · unfold mX4_night
      rw [L65, rd_ok rfl (by decide) (by decide), z65, if_neg (show ¬ nI bk.2.2.2.2 = (9 : Int32) from fun z => by rw [L9, nI_eq (by omega) (by decide)] at z; omega), en, Option.bind_some, rd_ok rfl (by decide) (by decide), z65, nI_1, wr_ok rfl (by decide) (by decide), rd_ok rfl (by decide) (by decide), pk_us]
  · have h9 : bk.2.2.2.2 = 9 := by omega
    refine ⟨(-3, s_x_now, s_x_acts, s_x_acts_cells), (-3, s_m, s_m_now, s_m_diary), ?_, ?_, rfl, h⟩
    · unfold mX3_night
      rw [b1, h9, if_neg (by decide)]
    · unfold mX4_night
      rw [L65, rd_ok rfl (by decide) (by decide), z65, h9, if_pos (by decide)]
end L2
