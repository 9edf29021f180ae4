section L2
variable {s_x : Int32 × Int64} {s_x_papers : Int32 × Int32 × Int32} {s_x_papers_cells : Ar} {s_x_now : Int32 × Int32 × Int32} {s_x_now_grants : Int32 × Int32 × Int32} {s_x_now_grants_cells : Ar} {s_x_now_routes : Int32 × Int32 × Int32} {s_x_now_routes_cells : Ar} {s_x_trial : Int32 × Int32 × Int32} {s_x_trial_grants : Int32 × Int32 × Int32} {s_x_trial_grants_cells : Ar} {s_x_trial_routes : Int32 × Int32 × Int32} {s_x_trial_routes_cells : Ar} {s_x_firstSlot : Int32 × Int32 × Int32} {s_x_firstSlot_grants : Int32 × Int32 × Int32} {s_x_firstSlot_grants_cells : Ar} {s_x_firstSlot_routes : Int32 × Int32 × Int32} {s_x_firstSlot_routes_cells : Ar} {s_x_secondSlot : Int32 × Int32 × Int32} {s_x_secondSlot_grants : Int32 × Int32 × Int32} {s_x_secondSlot_grants_cells : Ar} {s_x_secondSlot_routes : Int32 × Int32 × Int32} {s_x_secondSlot_routes_cells : Ar} {s_x_acts : Int32 × Int32 × Int32} {s_x_acts_cells : Ar} {s_x_seen : Int32 × Int32 × Int32} {s_x_seen_cells : Ar} {s_x_text : Int32 × Int32 × Int32} {s_x_text_letters : Nat → Int32} {s_x_text_papers : Int32 × Int32 × Int32} {s_x_text_papers_cells : Ar} {s_x_text_grants : Int32 × Int32 × Int32} {s_x_text_grants_cells : Ar} {s_x_text_routes : Int32 × Int32 × Int32} {s_x_text_routes_cells : Ar} {s_x_doings : Nat → Int32} {s_m : Int32 × Int32 × Int32 × Int32 × Int32 × Int32 × Int32 × Int32 × Int32 × Int64} {s_m_text : Nat → Int32} {s_m_paper : Nat → Int32} {s_m_now : Nat → Int32} {s_m_trial : Nat → Int32} {s_m_diary : Nat → Int32} {s_m_kept : Nat → Int32} {s_m_isKept : Nat → Int32} {s_m_seenAt : Nat → Int32} {s_m_worth : Nat → Int32} {s_m_readPaper : Nat → Int32} {s_m_read : Nat → Int32}
set_option maxHeartbeats 1000000 in
theorem L_state (h : Rel s_x s_x_papers s_x_papers_cells s_x_now s_x_now_grants s_x_now_grants_cells s_x_now_routes s_x_now_routes_cells s_x_trial s_x_trial_grants s_x_trial_grants_cells s_x_trial_routes s_x_trial_routes_cells s_x_firstSlot s_x_firstSlot_grants s_x_firstSlot_grants_cells s_x_firstSlot_routes s_x_firstSlot_routes_cells s_x_secondSlot s_x_secondSlot_grants s_x_secondSlot_grants_cells s_x_secondSlot_routes s_x_secondSlot_routes_cells s_x_acts s_x_acts_cells s_x_seen s_x_seen_cells s_x_text s_x_text_letters s_x_text_papers s_x_text_papers_cells s_x_text_grants s_x_text_grants_cells s_x_text_routes s_x_text_routes_cells s_x_doings s_m s_m_text s_m_paper s_m_now s_m_trial s_m_diary s_m_kept s_m_isKept s_m_seenAt s_m_worth s_m_readPaper s_m_read) (v1 : Int32) (v2 : Int32) (v3 : Int32) : ∃ (rx : Int32) (rm : Int32), mX3_state s_x_now s_x_papers s_x_papers_cells s_x_now_grants s_x_now_grants_cells v1 v2 v3 = some rx ∧ mX4_state s_m_now s_m_paper v1 v2 v3 = some rm ∧ rx = rm ∧ Rel s_x s_x_papers s_x_papers_cells s_x_now s_x_now_grants s_x_now_grants_cells s_x_now_routes s_x_now_routes_cells s_x_trial s_x_trial_grants s_x_trial_grants_cells s_x_trial_routes s_x_trial_routes_cells s_x_firstSlot s_x_firstSlot_grants s_x_firstSlot_grants_cells s_x_firstSlot_routes s_x_firstSlot_routes_cells s_x_secondSlot s_x_secondSlot_grants s_x_secondSlot_grants_cells s_x_secondSlot_routes s_x_secondSlot_routes_cells s_x_acts s_x_acts_cells s_x_seen s_x_seen_cells s_x_text s_x_text_letters s_x_text_papers s_x_text_papers_cells s_x_text_grants s_x_text_grants_cells s_x_text_routes s_x_text_routes_cells s_x_doings s_m s_m_text s_m_paper s_m_now s_m_trial s_m_diary s_m_kept s_m_isKept s_m_seenAt s_m_worth s_m_readPaper s_m_read := by
  obtain ⟨P, bk, hs, k0, k1, sn, t, len, nx, hW, hC, hR⟩ := id h
  obtain ⟨wP, wB, wh1, wh2, wk0, wk1, ws1, ws2, wl1, wl2, wn⟩ := id hW
  obtain ⟨bG1, bR1, bG, bR, bD⟩ := id wB
  obtain ⟨cP, cN, cT, cK0, cK1, cA, cS, cX, cW, cM⟩ := id hC
  obtain ⟨cb, cg, cr⟩ := id cN
  obtain ⟨rM, rX, rP, rN, rD, rK, rS⟩ := id hR
  obtain ⟨m1, m2, m3, m4, m5, m6⟩ := id rM
  obtain ⟨n1, n2, z0, zg, z41, zr, z63, z64, z65⟩ := id rN
  have hday : bk.2.2.2.2 < 2 ^ 31 := by omega
  rcases rng_any v1 v2 with ⟨s, l, hv, rfl, rfl, e1, e2⟩ | ⟨e1, e2⟩
  · rcases org_any v3 with ⟨o, ho, rfl, f1, f2⟩ | ⟨f1, f2⟩
    · have hl := hv.1
      refine ⟨nI (stS (cnK P bk.1 bk.2.2.1 bk.2.2.2.1 bk.2.2.2.2) bk.1 s l o bk.1.length), nI (stS (cnK P bk.1 bk.2.2.1 bk.2.2.2.1 bk.2.2.2.2) bk.1 s l o bk.1.length), ?_, ?_, rfl, h⟩
      · unfold mX3_state
        rw [e1, Option.bind_some, if_pos rfl, f1, Option.bind_some, if_pos rfl, cov_ok (by omega), Option.bind_some, countingNow_ok wP bG cP cg cb hday, Option.bind_some, stateOf_ok (gOk.v bG) cg hv ho, Option.bind_some, stS_cong _ _ _ _ (msk_bi (by omega))]
      · unfold mX4_state
        rw [e2, Option.bind_some, if_pos rfl, f2, Option.bind_some, if_pos rfl, stateOf_r wP bG rP rN hday hv ho, Option.bind_some]
    · refine ⟨-1, -1, ?_, ?_, rfl, h⟩
      · unfold mX3_state
        rw [e1, Option.bind_some, if_pos rfl, f1]
        rfl
      · unfold mX4_state
        rw [e2, Option.bind_some, if_pos rfl, f2]
        rfl
  · refine ⟨-2, -2, ?_, ?_, rfl, h⟩
    · unfold mX3_state
      rw [e1]
      rfl
    · unfold mX4_state
      rw [e2]
      rfl
set_option maxHeartbeats 1000000 in
theorem L_goes (h : Rel s_x s_x_papers s_x_papers_cells s_x_now s_x_now_grants s_x_now_grants_cells s_x_now_routes s_x_now_routes_cells s_x_trial s_x_trial_grants s_x_trial_grants_cells s_x_trial_routes s_x_trial_routes_cells s_x_firstSlot s_x_firstSlot_grants s_x_firstSlot_grants_cells s_x_firstSlot_routes s_x_firstSlot_routes_cells s_x_secondSlot s_x_secondSlot_grants s_x_secondSlot_grants_cells s_x_secondSlot_routes s_x_secondSlot_routes_cells s_x_acts s_x_acts_cells s_x_seen s_x_seen_cells s_x_text s_x_text_letters s_x_text_papers s_x_text_papers_cells s_x_text_grants s_x_text_grants_cells s_x_text_routes s_x_text_routes_cells s_x_doings s_m s_m_text s_m_paper s_m_now s_m_trial s_m_diary s_m_kept s_m_isKept s_m_seenAt s_m_worth s_m_readPaper s_m_read) (v1 : Int32) (v2 : Int32) : ∃ (rx : Int32) (rm : Int32), mX3_goes s_x_now s_x_papers s_x_papers_cells s_x_now_grants s_x_now_grants_cells s_x_now_routes s_x_now_routes_cells v1 v2 = some rx ∧ mX4_goes s_m_now s_m_paper v1 v2 = some rm ∧ rx = rm ∧ Rel s_x s_x_papers s_x_papers_cells s_x_now s_x_now_grants s_x_now_grants_cells s_x_now_routes s_x_now_routes_cells s_x_trial s_x_trial_grants s_x_trial_grants_cells s_x_trial_routes s_x_trial_routes_cells s_x_firstSlot s_x_firstSlot_grants s_x_firstSlot_grants_cells s_x_firstSlot_routes s_x_firstSlot_routes_cells s_x_secondSlot s_x_secondSlot_grants s_x_secondSlot_grants_cells s_x_secondSlot_routes s_x_secondSlot_routes_cells s_x_acts s_x_acts_cells s_x_seen s_x_seen_cells s_x_text s_x_text_letters s_x_text_papers s_x_text_papers_cells s_x_text_grants s_x_text_grants_cells s_x_text_routes s_x_text_routes_cells s_x_doings s_m s_m_text s_m_paper s_m_now s_m_trial s_m_diary s_m_kept s_m_isKept s_m_seenAt s_m_worth s_m_readPaper s_m_read := by
  obtain ⟨P, bk, hs, k0, k1, sn, t, len, nx, hW, hC, hR⟩ := id h
  obtain ⟨wP, wB, wh1, wh2, wk0, wk1, ws1, ws2, wl1, wl2, wn⟩ := id hW
  obtain ⟨bG1, bR1, bG, bR, bD⟩ := id wB
  obtain ⟨cP, cN, cT, cK0, cK1, cA, cS, cX, cW, cM⟩ := id hC
  obtain ⟨cb, cg, cr⟩ := id cN
  obtain ⟨rM, rX, rP, rN, rD, rK, rS⟩ := id hR
  obtain ⟨m1, m2, m3, m4, m5, m6⟩ := id rM
  obtain ⟨n1, n2, z0, zg, z41, zr, z63, z64, z65⟩ := id rN
  have hday : bk.2.2.2.2 < 2 ^ 31 := by omega
  rcases place_any v1 with ⟨p, hp, rfl, e1, e2⟩ | ⟨e1, e2⟩
  · rcases law_any v2 with ⟨o, ho, rfl, f1, f2⟩ | ⟨f1, f2⟩
    · refine ⟨enc (goS (cnK P bk.1 bk.2.2.1 bk.2.2.2.1 bk.2.2.2.2) bk.1 bk.2.1 o p), enc (goS (cnK P bk.1 bk.2.2.1 bk.2.2.2.1 bk.2.2.2.2) bk.1 bk.2.1 o p), ?_, ?_, rfl, h⟩
      · unfold mX3_goes
        rw [e1, Option.bind_some, if_pos rfl, f1, Option.bind_some, if_pos rfl, routeTo_ok wP bG bR cP cg cr cb hday ho hp, Option.bind_some]
      · unfold mX4_goes
        rw [e2, Option.bind_some, if_pos rfl, f2, Option.bind_some, if_pos rfl, goesOf_r wP bG bR rP rN hday hp ho, Option.bind_some]
    · refine ⟨-2, -2, ?_, ?_, rfl, h⟩
      · unfold mX3_goes
        rw [e1, Option.bind_some, if_pos rfl, f1]
        rfl
      · unfold mX4_goes
        rw [e2, Option.bind_some, if_pos rfl, f2]
        rfl
  · refine ⟨-1, -1, ?_, ?_, rfl, h⟩
    · unfold mX3_goes
      rw [e1]
      rfl
    · unfold mX4_goes
      rw [e2]
      rfl
set_option maxHeartbeats 1000000 in
theorem L_seed (h : Rel s_x s_x_papers s_x_papers_cells s_x_now s_x_now_grants s_x_now_grants_cells s_x_now_routes s_x_now_routes_cells s_x_trial s_x_trial_grants s_x_trial_grants_cells s_x_trial_routes s_x_trial_routes_cells s_x_firstSlot s_x_firstSlot_grants s_x_firstSlot_grants_cells s_x_firstSlot_routes s_x_firstSlot_routes_cells s_x_secondSlot s_x_secondSlot_grants s_x_secondSlot_grants_cells s_x_secondSlot_routes s_x_secondSlot_routes_cells s_x_acts s_x_acts_cells s_x_seen s_x_seen_cells s_x_text s_x_text_letters s_x_text_papers s_x_text_papers_cells s_x_text_grants s_x_text_grants_cells s_x_text_routes s_x_text_routes_cells s_x_doings s_m s_m_text s_m_paper s_m_now s_m_trial s_m_diary s_m_kept s_m_isKept s_m_seenAt s_m_worth s_m_readPaper s_m_read) (v1 : Int64) : ∃ (rx : Int64 × (Int32 × Int64)) (rm : Int64 × (Int32 × Int32 × Int32 × Int32 × Int32 × Int32 × Int32 × Int32 × Int32 × Int64)), mX3_seed s_x v1 = some rx ∧ mX4_seed s_m v1 = some rm ∧ rx.1 = rm.1 ∧ Rel rx.2 s_x_papers s_x_papers_cells s_x_now s_x_now_grants s_x_now_grants_cells s_x_now_routes s_x_now_routes_cells s_x_trial s_x_trial_grants s_x_trial_grants_cells s_x_trial_routes s_x_trial_routes_cells s_x_firstSlot s_x_firstSlot_grants s_x_firstSlot_grants_cells s_x_firstSlot_routes s_x_firstSlot_routes_cells s_x_secondSlot s_x_secondSlot_grants s_x_secondSlot_grants_cells s_x_secondSlot_routes s_x_secondSlot_routes_cells s_x_acts s_x_acts_cells s_x_seen s_x_seen_cells s_x_text s_x_text_letters s_x_text_papers s_x_text_papers_cells s_x_text_grants s_x_text_grants_cells s_x_text_routes s_x_text_routes_cells s_x_doings rm.2 s_m_text s_m_paper s_m_now s_m_trial s_m_diary s_m_kept s_m_isKept s_m_seenAt s_m_worth s_m_readPaper s_m_read := by
  obtain ⟨P, bk, hs, k0, k1, sn, t, len, nx, hW, hC, hR⟩ := id h
  obtain ⟨wP, wB, wh1, wh2, wk0, wk1, ws1, ws2, wl1, wl2, wn⟩ := id hW
  obtain ⟨bG1, bR1, bG, bR, bD⟩ := id wB
  obtain ⟨cP, cN, cT, cK0, cK1, cA, cS, cX, cW, cM⟩ := id hC
  obtain ⟨cb, cg, cr⟩ := id cN
  obtain ⟨rM, rX, rP, rN, rD, rK, rS⟩ := id hR
  obtain ⟨m1, m2, m3, m4, m5, m6⟩ := id rM
  obtain ⟨n1, n2, z0, zg, z41, zr, z63, z64, z65⟩ := id rN
  have hday : bk.2.2.2.2 < 2 ^ 31 := by omega
  refine ⟨_, _, rfl, rfl, m6.symm, P, bk, hs, k0, k1, sn, t, len, nx, hW, ⟨cP, cN, cT, cK0, cK1, cA, cS, cX, cW, cM⟩, ⟨m1, m2, m3, m4, m5, rfl⟩, rX, rP, rN, rD, rK, rS⟩
set_option maxHeartbeats 1000000 in
theorem L_unsee (h : Rel s_x s_x_papers s_x_papers_cells s_x_now s_x_now_grants s_x_now_grants_cells s_x_now_routes s_x_now_routes_cells s_x_trial s_x_trial_grants s_x_trial_grants_cells s_x_trial_routes s_x_trial_routes_cells s_x_firstSlot s_x_firstSlot_grants s_x_firstSlot_grants_cells s_x_firstSlot_routes s_x_firstSlot_routes_cells s_x_secondSlot s_x_secondSlot_grants s_x_secondSlot_grants_cells s_x_secondSlot_routes s_x_secondSlot_routes_cells s_x_acts s_x_acts_cells s_x_seen s_x_seen_cells s_x_text s_x_text_letters s_x_text_papers s_x_text_papers_cells s_x_text_grants s_x_text_grants_cells s_x_text_routes s_x_text_routes_cells s_x_doings s_m s_m_text s_m_paper s_m_now s_m_trial s_m_diary s_m_kept s_m_isKept s_m_seenAt s_m_worth s_m_readPaper s_m_read)  : ∃ (rx : Int32 × (Int32 × Int32 × Int32)) (rm : Int32 × (Int32 × Int32 × Int32 × Int32 × Int32 × Int32 × Int32 × Int32 × Int32 × Int64)), mX3_unsee s_x_seen = some rx ∧ mX4_unsee s_m = some rm ∧ rx.1 = rm.1 ∧ Rel s_x s_x_papers s_x_papers_cells s_x_now s_x_now_grants s_x_now_grants_cells s_x_now_routes s_x_now_routes_cells s_x_trial s_x_trial_grants s_x_trial_grants_cells s_x_trial_routes s_x_trial_routes_cells s_x_firstSlot s_x_firstSlot_grants s_x_firstSlot_grants_cells s_x_firstSlot_routes s_x_firstSlot_routes_cells s_x_secondSlot s_x_secondSlot_grants s_x_secondSlot_grants_cells s_x_secondSlot_routes s_x_secondSlot_routes_cells s_x_acts s_x_acts_cells rx.2 s_x_seen_cells s_x_text s_x_text_letters s_x_text_papers s_x_text_papers_cells s_x_text_grants s_x_text_grants_cells s_x_text_routes s_x_text_routes_cells s_x_doings rm.2 s_m_text s_m_paper s_m_now s_m_trial s_m_diary s_m_kept s_m_isKept s_m_seenAt s_m_worth s_m_readPaper s_m_read := by
  obtain ⟨P, bk, hs, k0, k1, sn, t, len, nx, hW, hC, hR⟩ := id h
  obtain ⟨wP, wB, wh1, wh2, wk0, wk1, ws1, ws2, wl1, wl2, wn⟩ := id hW
  obtain ⟨bG1, bR1, bG, bR, bD⟩ := id wB
  obtain ⟨cP, cN, cT, cK0, cK1, cA, cS, cX, cW, cM⟩ := id hC
  obtain ⟨cb, cg, cr⟩ := id cN
  obtain ⟨rM, rX, rP, rN, rD, rK, rS⟩ := id hR
  obtain ⟨m1, m2, m3, m4, m5, m6⟩ := id rM
  obtain ⟨n1, n2, z0, zg, z41, zr, z63, z64, z65⟩ := id rN
  have hday : bk.2.2.2.2 < 2 ^ 31 := by omega
  refine ⟨_, _, rfl, rfl, ?_, P, bk, hs, k0, k1, [], t, len, nx, ⟨wP, wB, wh1, wh2, wk0, wk1, Nat.zero_le _, fun k hk => absurd hk (Nat.not_lt_zero k), wl1, wl2, wn⟩, ⟨cP, cN, cT, cK0, cK1, cA, ?_, cX, cW, cM⟩, ⟨m1, m2, m3, m4, rfl, m6⟩, rX, rP, rN, rD, rK, fun i hi => absurd hi (Nat.not_lt_zero i)⟩
  · dsimp only
    rw [cS.cnt, m5]
  · obtain ⟨q1, q2, q3, q4, q5, q6, q7⟩ := cS
    exact ⟨by rw [q1]; rfl, Nat.zero_le _, q3, q4, q5, q6, fun i hi => absurd hi (Nat.not_lt_zero i)⟩
set_option maxHeartbeats 1000000 in
theorem L_wipe (h : Rel s_x s_x_papers s_x_papers_cells s_x_now s_x_now_grants s_x_now_grants_cells s_x_now_routes s_x_now_routes_cells s_x_trial s_x_trial_grants s_x_trial_grants_cells s_x_trial_routes s_x_trial_routes_cells s_x_firstSlot s_x_firstSlot_grants s_x_firstSlot_grants_cells s_x_firstSlot_routes s_x_firstSlot_routes_cells s_x_secondSlot s_x_secondSlot_grants s_x_secondSlot_grants_cells s_x_secondSlot_routes s_x_secondSlot_routes_cells s_x_acts s_x_acts_cells s_x_seen s_x_seen_cells s_x_text s_x_text_letters s_x_text_papers s_x_text_papers_cells s_x_text_grants s_x_text_grants_cells s_x_text_routes s_x_text_routes_cells s_x_doings s_m s_m_text s_m_paper s_m_now s_m_trial s_m_diary s_m_kept s_m_isKept s_m_seenAt s_m_worth s_m_readPaper s_m_read)  : ∃ (rx : Int32 × (Int32 × Int32 × Int32)) (rm : Int32 × (Int32 × Int32 × Int32 × Int32 × Int32 × Int32 × Int32 × Int32 × Int32 × Int64)), mX3_wipe s_x_text = some rx ∧ mX4_wipe s_m = some rm ∧ rx.1 = rm.1 ∧ Rel s_x s_x_papers s_x_papers_cells s_x_now s_x_now_grants s_x_now_grants_cells s_x_now_routes s_x_now_routes_cells s_x_trial s_x_trial_grants s_x_trial_grants_cells s_x_trial_routes s_x_trial_routes_cells s_x_firstSlot s_x_firstSlot_grants s_x_firstSlot_grants_cells s_x_firstSlot_routes s_x_firstSlot_routes_cells s_x_secondSlot s_x_secondSlot_grants s_x_secondSlot_grants_cells s_x_secondSlot_routes s_x_secondSlot_routes_cells s_x_acts s_x_acts_cells s_x_seen s_x_seen_cells rx.2 s_x_text_letters s_x_text_papers s_x_text_papers_cells s_x_text_grants s_x_text_grants_cells s_x_text_routes s_x_text_routes_cells s_x_doings rm.2 s_m_text s_m_paper s_m_now s_m_trial s_m_diary s_m_kept s_m_isKept s_m_seenAt s_m_worth s_m_readPaper s_m_read := by
  obtain ⟨P, bk, hs, k0, k1, sn, t, len, nx, hW, hC, hR⟩ := id h
  obtain ⟨wP, wB, wh1, wh2, wk0, wk1, ws1, ws2, wl1, wl2, wn⟩ := id hW
  obtain ⟨bG1, bR1, bG, bR, bD⟩ := id wB
  obtain ⟨cP, cN, cT, cK0, cK1, cA, cS, cX, cW, cM⟩ := id hC
  obtain ⟨cb, cg, cr⟩ := id cN
  obtain ⟨rM, rX, rP, rN, rD, rK, rS⟩ := id hR
  obtain ⟨m1, m2, m3, m4, m5, m6⟩ := id rM
  obtain ⟨n1, n2, z0, zg, z41, zr, z63, z64, z65⟩ := id rN
  have hday : bk.2.2.2.2 < 2 ^ 31 := by omega
  refine ⟨_, _, rfl, rfl, ?_, P, bk, hs, k0, k1, sn, t, 0, nx, ⟨wP, wB, wh1, wh2, wk0, wk1, ws1, ws2, Nat.zero_le _, fun j hj => absurd hj (Nat.not_lt_zero j), wn⟩, ⟨cP, cN, cT, cK0, cK1, cA, cS, ⟨rfl, fun j hj => absurd hj (Nat.not_lt_zero j)⟩, cW, cM⟩, ⟨rfl, m2, m3, m4, m5, m6⟩, fun j hj => absurd hj (Nat.not_lt_zero j), rP, rN, rD, rK, rS⟩
  dsimp only
  rw [cX.1, m1]
set_option maxHeartbeats 1000000 in
theorem L_write (h : Rel s_x s_x_papers s_x_papers_cells s_x_now s_x_now_grants s_x_now_grants_cells s_x_now_routes s_x_now_routes_cells s_x_trial s_x_trial_grants s_x_trial_grants_cells s_x_trial_routes s_x_trial_routes_cells s_x_firstSlot s_x_firstSlot_grants s_x_firstSlot_grants_cells s_x_firstSlot_routes s_x_firstSlot_routes_cells s_x_secondSlot s_x_secondSlot_grants s_x_secondSlot_grants_cells s_x_secondSlot_routes s_x_secondSlot_routes_cells s_x_acts s_x_acts_cells s_x_seen s_x_seen_cells s_x_text s_x_text_letters s_x_text_papers s_x_text_papers_cells s_x_text_grants s_x_text_grants_cells s_x_text_routes s_x_text_routes_cells s_x_doings s_m s_m_text s_m_paper s_m_now s_m_trial s_m_diary s_m_kept s_m_isKept s_m_seenAt s_m_worth s_m_readPaper s_m_read) (v1 : Int32) : ∃ (rx : Int32 × (Int32 × Int32 × Int32) × (Nat → Int32)) (rm : Int32 × (Int32 × Int32 × Int32 × Int32 × Int32 × Int32 × Int32 × Int32 × Int32 × Int64) × (Nat → Int32)), mX3_write s_x_text s_x_text_letters v1 = some rx ∧ mX4_write s_m s_m_text v1 = some rm ∧ rx.1 = rm.1 ∧ Rel s_x s_x_papers s_x_papers_cells s_x_now s_x_now_grants s_x_now_grants_cells s_x_now_routes s_x_now_routes_cells s_x_trial s_x_trial_grants s_x_trial_grants_cells s_x_trial_routes s_x_trial_routes_cells s_x_firstSlot s_x_firstSlot_grants s_x_firstSlot_grants_cells s_x_firstSlot_routes s_x_firstSlot_routes_cells s_x_secondSlot s_x_secondSlot_grants s_x_secondSlot_grants_cells s_x_secondSlot_routes s_x_secondSlot_routes_cells s_x_acts s_x_acts_cells s_x_seen s_x_seen_cells rx.2.1 rx.2.2 s_x_text_papers s_x_text_papers_cells s_x_text_grants s_x_text_grants_cells s_x_text_routes s_x_text_routes_cells s_x_doings rm.2.1 rm.2.2 s_m_paper s_m_now s_m_trial s_m_diary s_m_kept s_m_isKept s_m_seenAt s_m_worth s_m_readPaper s_m_read := by
  obtain ⟨P, bk, hs, k0, k1, sn, t, len, nx, hW, hC, hR⟩ := id h
  obtain ⟨wP, wB, wh1, wh2, wk0, wk1, ws1, ws2, wl1, wl2, wn⟩ := id hW
  obtain ⟨bG1, bR1, bG, bR, bD⟩ := id wB
  obtain ⟨cP, cN, cT, cK0, cK1, cA, cS, cX, cW, cM⟩ := id hC
  obtain ⟨cb, cg, cr⟩ := id cN
  obtain ⟨rM, rX, rP, rN, rD, rK, rS⟩ := id hR
  obtain ⟨m1, m2, m3, m4, m5, m6⟩ := id rM
  obtain ⟨n1, n2, z0, zg, z41, zr, z63, z64, z65⟩ := id rN
  have hday : bk.2.2.2.2 < 2 ^ 31 := by omega
  have hin : mX4_in v1.toInt64 (0 : Int64) (255 : Int64) = some (decide ((0 : Int32) ≤ v1 ∧ v1 ≤ 255)) := in_i v1 0 255
  rcases isK v1 256 255 (n := 256) rfl rfl (by decide) (by decide) with ⟨q, hq, rfl, g1, g2, g3, g4⟩ | ⟨g1, g2⟩
  · by_cases hl : len < 99
    · have hch : (((nI q).toUInt32 % 65536).toInt32) = nI q := by
        rw [pk_char, pk_tn (by omega), Nat.mod_eq_of_lt (by omega)]
      refine ⟨(nI (len + 1), (nI (len + 1), s_x_text.2.1, s_x_text.2.2), upd s_x_text_letters len (nI q)), (nI (len + 1), (nI (len + 1), s_m.2.1, s_m.2.2.1, s_m.2.2.2.1, s_m.2.2.2.2.1, s_m.2.2.2.2.2.1, s_m.2.2.2.2.2.2.1, s_m.2.2.2.2.2.2.2.1, s_m.2.2.2.2.2.2.2.2.1, s_m.2.2.2.2.2.2.2.2.2), upd s_m_text len (nI q)), ?_, ?_, rfl, P, bk, hs, k0, k1, sn, upd t len (nI q), len + 1, nx, ⟨wP, wB, wh1, wh2, wk0, wk1, ws1, ws2, hl, fun j hj => ?_, wn⟩, ⟨cP, cN, cT, cK0, cK1, cA, cS, ⟨rfl, fun j hj => ?_⟩, cW, cM⟩, ⟨rfl, m2, m3, m4, m5, m6⟩, fun j hj => ?_, rP, rN, rD, rK, rS⟩
      · unfold mX3_write
        rw [if_neg g1, if_pos g3, cX.1, L99, if_pos (nI_lt hl (by decide))]
        have ea : mX2_append s_x_text s_x_text_letters (nI q) = some ((nI (len + 1), s_x_text.2.1, s_x_text.2.2), upd s_x_text_letters len (nI q)) := by
          unfold mX2_append
          rw [cX.1, L99, if_neg (nI_ge hl (by decide)), wr_ok rfl hl (by decide), hch, nI_1]
        rw [ea, Option.bind_some]
      · unfold mX4_write
        rw [hin, decide_eq_true ⟨g4, g3⟩, Option.bind_some, if_pos rfl, m1, if_neg (show ¬ nI len = (99 : Int32) from fun z => by rw [L99, nI_eq (by omega) (by decide)] at z; omega), wr_ok rfl hl (by decide), nI_1]
      · by_cases z : j = len
        · subst z; exact ⟨q, hq, pk_us⟩
        · rw [pk_un z]; exact wl2 j (by omega)
      · by_cases z : j = len
        · subst z; dsimp only; rw [pk_us, pk_us]
        · dsimp only; rw [pk_un z, pk_un z]; exact cX.2 j (by omega)
      · by_cases z : j = len
        · subst z; dsimp only; rw [pk_us, pk_us]
        · dsimp only; rw [pk_un z, pk_un z]; exact rX j (by omega)
    · have hl9 : len = 99 := by omega
      refine ⟨(-4, s_x_text, s_x_text_letters), (-4, s_m, s_m_text), ?_, ?_, rfl, h⟩
      · unfold mX3_write
        rw [if_neg g1, if_pos g3, cX.1, hl9, if_neg (by decide)]
      · unfold mX4_write
        rw [hin, decide_eq_true ⟨g4, g3⟩, Option.bind_some, if_pos rfl, m1, hl9, if_pos (by decide)]
  · refine ⟨(-2, s_x_text, s_x_text_letters), (-2, s_m, s_m_text), ?_, ?_, rfl, h⟩
    · unfold mX3_write
      by_cases q : v1 < 0
      · rw [if_pos q]
      · rw [if_neg q, if_neg (fun z => g2 ⟨Int32.not_lt.mp q, z⟩)]
    · unfold mX4_write
      rw [hin, decide_eq_false g2]
      rfl
set_option maxHeartbeats 1000000 in
theorem L_see (h : Rel s_x s_x_papers s_x_papers_cells s_x_now s_x_now_grants s_x_now_grants_cells s_x_now_routes s_x_now_routes_cells s_x_trial s_x_trial_grants s_x_trial_grants_cells s_x_trial_routes s_x_trial_routes_cells s_x_firstSlot s_x_firstSlot_grants s_x_firstSlot_grants_cells s_x_firstSlot_routes s_x_firstSlot_routes_cells s_x_secondSlot s_x_secondSlot_grants s_x_secondSlot_grants_cells s_x_secondSlot_routes s_x_secondSlot_routes_cells s_x_acts s_x_acts_cells s_x_seen s_x_seen_cells s_x_text s_x_text_letters s_x_text_papers s_x_text_papers_cells s_x_text_grants s_x_text_grants_cells s_x_text_routes s_x_text_routes_cells s_x_doings s_m s_m_text s_m_paper s_m_now s_m_trial s_m_diary s_m_kept s_m_isKept s_m_seenAt s_m_worth s_m_readPaper s_m_read) (v1 : Int32) (v2 : Int32) (v3 : Int32) (v4 : Int32) : ∃ (rx : Int32 × (Int32 × Int32 × Int32) × Ar) (rm : Int32 × (Int32 × Int32 × Int32 × Int32 × Int32 × Int32 × Int32 × Int32 × Int32 × Int64) × (Nat → Int32)), mX3_see s_x_seen s_x_seen_cells v1 v2 v3 v4 = some rx ∧ mX4_see s_m s_m_seenAt v1 v2 v3 v4 = some rm ∧ rx.1 = rm.1 ∧ Rel s_x s_x_papers s_x_papers_cells s_x_now s_x_now_grants s_x_now_grants_cells s_x_now_routes s_x_now_routes_cells s_x_trial s_x_trial_grants s_x_trial_grants_cells s_x_trial_routes s_x_trial_routes_cells s_x_firstSlot s_x_firstSlot_grants s_x_firstSlot_grants_cells s_x_firstSlot_routes s_x_firstSlot_routes_cells s_x_secondSlot s_x_secondSlot_grants s_x_secondSlot_grants_cells s_x_secondSlot_routes s_x_secondSlot_routes_cells s_x_acts s_x_acts_cells rx.2.1 rx.2.2 s_x_text s_x_text_letters s_x_text_papers s_x_text_papers_cells s_x_text_grants s_x_text_grants_cells s_x_text_routes s_x_text_routes_cells s_x_doings rm.2.1 s_m_text s_m_paper s_m_now s_m_trial s_m_diary s_m_kept s_m_isKept rm.2.2 s_m_worth s_m_readPaper s_m_read := by
  obtain ⟨P, bk, hs, k0, k1, sn, t, len, nx, hW, hC, hR⟩ := id h
  obtain ⟨wP, wB, wh1, wh2, wk0, wk1, ws1, ws2, wl1, wl2, wn⟩ := id hW
  obtain ⟨bG1, bR1, bG, bR, bD⟩ := id wB
  obtain ⟨cP, cN, cT, cK0, cK1, cA, cS, cX, cW, cM⟩ := id hC
  obtain ⟨cb, cg, cr⟩ := id cN
  obtain ⟨rM, rX, rP, rN, rD, rK, rS⟩ := id hR
  obtain ⟨m1, m2, m3, m4, m5, m6⟩ := id rM
  obtain ⟨n1, n2, z0, zg, z41, zr, z63, z64, z65⟩ := id rN
  have hday : bk.2.2.2.2 < 2 ^ 31 := by omega
  have hin : mX4_in v4.toInt64 (0 : Int64) (2 : Int64) = some (decide ((0 : Int32) ≤ v4 ∧ v4 ≤ 2)) := in_i v4 0 2
  rcases rng_any v1 v2 with ⟨s, l, hv, rfl, rfl, e1, e2⟩ | ⟨e1, e2⟩
  · have hl := hv.1
    rcases isK v4 3 2 (n := 3) rfl rfl (by decide) (by decide) with ⟨q, hq, rfl, g1, g2, g3, g4⟩ | ⟨g1, g2⟩
    · rcases org_any v3 with ⟨o, ho, rfl, f1, f2⟩ | ⟨f1, f2⟩
      · by_cases hn : sn.length < 6
        · obtain ⟨o', a', ea, ra⟩ := cS.add hn (s, l, o, q) (show l < 2 ^ 31 by omega)
          refine ⟨(o'.2.2, o', a'), (nI (sn.length + 1), (s_m.1, s_m.2.1, s_m.2.2.1, s_m.2.2.2.1, nI (sn.length + 1), s_m.2.2.2.2.2.1, s_m.2.2.2.2.2.2.1, s_m.2.2.2.2.2.2.2.1, s_m.2.2.2.2.2.2.2.2.1, s_m.2.2.2.2.2.2.2.2.2), upd (upd (upd (upd s_m_seenAt (4 * sn.length) (nI s)) (4 * sn.length + 1) (nI l)) (4 * sn.length + 2) (nI o)) (4 * sn.length + 3) (nI q)), ?_, ?_, ?_, P, bk, hs, k0, k1, sn ++ [(s, l, o, q)], t, len, nx, ⟨wP, wB, wh1, wh2, wk0, wk1, by rw [List.length_append]; exact hn, fun k hk => ?_, wl1, wl2, wn⟩, ⟨cP, cN, cT, cK0, cK1, cA, ra, cX, cW, cM⟩, ⟨m1, m2, m3, m4, by rw [List.length_append]; rfl, m6⟩, rX, rP, rN, rD, rK, fun i hi => ?_⟩
          · unfold mX3_see
            rw [e1, Option.bind_some, if_pos rfl, if_neg g1, if_pos g3, f1, Option.bind_some, if_pos rfl, cS.cnt, L6, if_pos (nI_lt hn (by decide))]
            rw [show mX1_addRange s_x_seen s_x_seen_cells (nI s) (nI l) (nI o) (nI q) (0 : Int32) = some (nI sn.length, o', a') from ea, Option.bind_some]
          · unfold mX4_see
            rw [e2, Option.bind_some, if_pos rfl, hin, decide_eq_true ⟨g4, g3⟩, Option.bind_some, if_pos rfl, f2, Option.bind_some, if_pos rfl, m5, if_neg (show ¬ nI sn.length = (6 : Int32) from fun z => by rw [L6, nI_eq (by omega) (by decide)] at z; omega)]
            simp only [L1, L2, L3, L4, pk_mul, nI_add]
            rw [wr_ok rfl (by omega) (by decide), wr_ok rfl (by omega) (by decide), wr_ok rfl (by omega) (by decide), wr_ok rfl (by omega) (by decide)]
          · dsimp only
            rw [ra.cnt, List.length_append]
            rfl
          · rw [List.length_append] at hk
            have hk' : k < sn.length + 1 := hk
            unfold qA
            by_cases z : k = sn.length
            · subst z; rw [gd_eq]; exact ⟨hv, ho, hq⟩
            · rw [gd_lt _ _ _ (by omega)]; exact ws2 k (by omega)
          · rw [List.length_append] at hi
            have hi' : i < sn.length + 1 := hi
            dsimp only
            unfold qA
            by_cases z : i = sn.length
            · subst z
              rw [gd_eq]
              exact ⟨by rw [pk_un (by omega), pk_un (by omega), pk_un (by omega), pk_us], by rw [pk_un (by omega), pk_un (by omega), pk_us], by rw [pk_un (by omega), pk_us], by rw [pk_us]⟩
            · obtain ⟨a1, a2, a3, a4⟩ := rS i (by omega)
              unfold qA at a1 a2 a3 a4
              rw [gd_lt _ _ _ (by omega)]
              exact ⟨by rw [pk_un (by omega), pk_un (by omega), pk_un (by omega), pk_un (by omega), a1], by rw [pk_un (by omega), pk_un (by omega), pk_un (by omega), pk_un (by omega), a2], by rw [pk_un (by omega), pk_un (by omega), pk_un (by omega), pk_un (by omega), a3], by rw [pk_un (by omega), pk_un (by omega), pk_un (by omega), pk_un (by omega), a4]⟩
        · have h6 : sn.length = 6 := by omega
          refine ⟨(-4, s_x_seen, s_x_seen_cells), (-4, s_m, s_m_seenAt), ?_, ?_, rfl, h⟩
          · unfold mX3_see
            rw [e1, Option.bind_some, if_pos rfl, if_neg g1, if_pos g3, f1, Option.bind_some, if_pos rfl, cS.cnt, h6, if_neg (by decide)]
          · unfold mX4_see
            rw [e2, Option.bind_some, if_pos rfl, hin, decide_eq_true ⟨g4, g3⟩, Option.bind_some, if_pos rfl, f2, Option.bind_some, if_pos rfl, m5, h6, if_pos (by decide)]
      · refine ⟨(-1, s_x_seen, s_x_seen_cells), (-1, s_m, s_m_seenAt), ?_, ?_, rfl, h⟩
        · unfold mX3_see
          rw [e1, Option.bind_some, if_pos rfl, if_neg g1, if_pos g3, f1]
          rfl
        · unfold mX4_see
          rw [e2, Option.bind_some, if_pos rfl, hin, decide_eq_true ⟨g4, g3⟩, Option.bind_some, if_pos rfl, f2]
          rfl
    · refine ⟨(-2, s_x_seen, s_x_seen_cells), (-2, s_m, s_m_seenAt), ?_, ?_, rfl, h⟩
      · unfold mX3_see
        rw [e1, Option.bind_some, if_pos rfl]
        by_cases q : v4 < 0
        · rw [if_pos q]
        · rw [if_neg q, if_neg (fun z => g2 ⟨Int32.not_lt.mp q, z⟩)]
      · unfold mX4_see
        rw [e2, Option.bind_some, if_pos rfl, hin, decide_eq_false g2]
        rfl
  · refine ⟨(-2, s_x_seen, s_x_seen_cells), (-2, s_m, s_m_seenAt), ?_, ?_, rfl, h⟩
    · unfold mX3_see
      rw [e1]
      rfl
    · unfold mX4_see
      rw [e2]
      rfl
end L2
