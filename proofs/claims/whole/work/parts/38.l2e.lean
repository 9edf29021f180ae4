/-! kept and gone on from -/
theorem keep_l {z now : Nat → Int32} {s : Nat} (hs : s < 2) {x41 : Int32} (hN : now 41 = x41) (f : Nat → Int32) : ∀ (m i : Nat) (g : Nat → Int32), i ≤ 66 → 66 - i < m → (∀ j, g j = if 66 * s ≤ j ∧ j < 66 * s + i then now (j - 66 * s) else f j) → ∃ g', mX4_keep_b21 z now (nI s) m (nI i) g = some (x41, z, g') ∧ ∀ j, g' j = if 66 * s ≤ j ∧ j < 66 * s + 66 then now (j - 66 * s) else f j := by
  intro m
  induction m with
  | zero => intro i g h1 h2; omega
  | succ m ih =>
    intro i g h1 h2 hg
    rw [mX4_keep_b21]
    by_cases hi : i < 66
    · rw [if_neg (show ¬ (66 : Int32) ≤ nI i by rw [L66]; exact nI_ge hi (by decide)), rd_ok rfl hi (by decide), L66, pk_mul, nI_add, wr_ok rfl (by omega) (by decide), nI_1]
      refine ih (i + 1) _ hi (by omega) (fun j => ?_)
      by_cases q : j = 66 * s + i
      · subst q
        rw [pk_us, if_pos (by omega), show 66 * s + i - 66 * s = i by omega]
      · rw [pk_un q, hg]
        by_cases z2 : 66 * s ≤ j ∧ j < 66 * s + i
        · rw [if_pos z2, if_pos (by omega)]
        · rw [if_neg z2, if_neg (by omega)]
    · have : i = 66 := by omega
      subst this
      rw [if_pos (by decide), L41, rd_ok rfl (by decide) (by decide), hN]
      exact ⟨g, rfl, hg⟩
theorem again_l {z d : Nat → Int32} {t : MO} {s : Nat} (hs : s < 2) : ∀ (m i : Nat) (g : Nat → Int32), i ≤ 66 → 66 - i < m → (∀ j, j < i → g j = d (66 * s + j)) → ∃ g', mX4_again_b26 t z d (nI s) m (nI i) g = some (d (66 * s + 41), (t.1, t.2.1, 0, t.2.2.2.1, t.2.2.2.2.1, t.2.2.2.2.2.1, t.2.2.2.2.2.2.1, t.2.2.2.2.2.2.2.1, t.2.2.2.2.2.2.2.2.1, t.2.2.2.2.2.2.2.2.2), g') ∧ ∀ j, j < 66 → g' j = d (66 * s + j) := by
  intro m
  induction m with
  | zero => intro i g h1 h2; omega
  | succ m ih =>
    intro i g h1 h2 h3
    rw [mX4_again_b26]
    by_cases hi : i < 66
    · rw [if_neg (show ¬ (66 : Int32) ≤ nI i by rw [L66]; exact nI_ge hi (by decide)), L66, pk_mul, nI_add, rd_ok rfl (by omega) (by decide), wr_ok rfl hi (by decide), nI_1]
      refine ih (i + 1) _ hi (by omega) (fun j hj => ?_)
      by_cases q : j = i
      · subst q; rw [pk_us]
      · rw [pk_un q, h3 j (by omega)]
    · have : i = 66 := by omega
      subst this
      rw [if_pos (by decide), L41, rd_ok rfl (by decide) (by decide), h3 41 (by decide)]
      exact ⟨g, rfl, h3⟩
theorem km_or0 (k0 k1 : Option Bk) (b : Bk) : kmask k0 k1 ||| ((1 : Int32) <<< (nI 0 &&& 31)) = kmask (some b) k1 := by
  unfold kmask
  rw [show (some b).isSome = true from rfl]
  generalize k0.isSome = x
  generalize k1.isSome = y
  cases x <;> cases y <;> decide
theorem km_or1 (k0 k1 : Option Bk) (b : Bk) : kmask k0 k1 ||| ((1 : Int32) <<< (nI 1 &&& 31)) = kmask k0 (some b) := by
  unfold kmask
  rw [show (some b).isSome = true from rfl]
  generalize k0.isSome = x
  generalize k1.isSome = y
  cases x <;> cases y <;> decide
theorem km_bit0 (k0 k1 : Option Bk) : bi (kmask k0 k1) 0 = k0.isSome := by
  unfold kmask
  generalize k0.isSome = x
  generalize k1.isSome = y
  cases x <;> cases y <;> decide
theorem km_bit1 (k0 k1 : Option Bk) : bi (kmask k0 k1) 1 = k1.isSome := by
  unfold kmask
  generalize k0.isSome = x
  generalize k1.isSome = y
  cases x <;> cases y <;> decide
section L2
variable {s_x : Int32 × Int64} {s_x_papers : Int32 × Int32 × Int32} {s_x_papers_cells : Ar} {s_x_now : Int32 × Int32 × Int32} {s_x_now_grants : Int32 × Int32 × Int32} {s_x_now_grants_cells : Ar} {s_x_now_routes : Int32 × Int32 × Int32} {s_x_now_routes_cells : Ar} {s_x_trial : Int32 × Int32 × Int32} {s_x_trial_grants : Int32 × Int32 × Int32} {s_x_trial_grants_cells : Ar} {s_x_trial_routes : Int32 × Int32 × Int32} {s_x_trial_routes_cells : Ar} {s_x_firstSlot : Int32 × Int32 × Int32} {s_x_firstSlot_grants : Int32 × Int32 × Int32} {s_x_firstSlot_grants_cells : Ar} {s_x_firstSlot_routes : Int32 × Int32 × Int32} {s_x_firstSlot_routes_cells : Ar} {s_x_secondSlot : Int32 × Int32 × Int32} {s_x_secondSlot_grants : Int32 × Int32 × Int32} {s_x_secondSlot_grants_cells : Ar} {s_x_secondSlot_routes : Int32 × Int32 × Int32} {s_x_secondSlot_routes_cells : Ar} {s_x_acts : Int32 × Int32 × Int32} {s_x_acts_cells : Ar} {s_x_seen : Int32 × Int32 × Int32} {s_x_seen_cells : Ar} {s_x_text : Int32 × Int32 × Int32} {s_x_text_letters : Nat → Int32} {s_x_text_papers : Int32 × Int32 × Int32} {s_x_text_papers_cells : Ar} {s_x_text_grants : Int32 × Int32 × Int32} {s_x_text_grants_cells : Ar} {s_x_text_routes : Int32 × Int32 × Int32} {s_x_text_routes_cells : Ar} {s_x_doings : Nat → Int32} {s_m : Int32 × Int32 × Int32 × Int32 × Int32 × Int32 × Int32 × Int32 × Int32 × Int64} {s_m_text : Nat → Int32} {s_m_paper : Nat → Int32} {s_m_now : Nat → Int32} {s_m_trial : Nat → Int32} {s_m_diary : Nat → Int32} {s_m_kept : Nat → Int32} {s_m_isKept : Nat → Int32} {s_m_seenAt : Nat → Int32} {s_m_worth : Nat → Int32} {s_m_readPaper : Nat → Int32} {s_m_read : Nat → Int32}
set_option maxHeartbeats 1000000 in
theorem L_keep (h : Rel s_x s_x_papers s_x_papers_cells s_x_now s_x_now_grants s_x_now_grants_cells s_x_now_routes s_x_now_routes_cells s_x_trial s_x_trial_grants s_x_trial_grants_cells s_x_trial_routes s_x_trial_routes_cells s_x_firstSlot s_x_firstSlot_grants s_x_firstSlot_grants_cells s_x_firstSlot_routes s_x_firstSlot_routes_cells s_x_secondSlot s_x_secondSlot_grants s_x_secondSlot_grants_cells s_x_secondSlot_routes s_x_secondSlot_routes_cells s_x_acts s_x_acts_cells s_x_seen s_x_seen_cells s_x_text s_x_text_letters s_x_text_papers s_x_text_papers_cells s_x_text_grants s_x_text_grants_cells s_x_text_routes s_x_text_routes_cells s_x_doings s_m s_m_text s_m_paper s_m_now s_m_trial s_m_diary s_m_kept s_m_isKept s_m_seenAt s_m_worth s_m_readPaper s_m_read) (v1 : Int32) : ∃ (rx : Int32 × (Int32 × Int64) × (Int32 × Int32 × Int32) × (Int32 × Int32 × Int32) × Ar × (Int32 × Int32 × Int32) × Ar × (Int32 × Int32 × Int32) × (Int32 × Int32 × Int32) × Ar × (Int32 × Int32 × Int32) × Ar) (rm : Int32 × (Nat → Int32) × (Nat → Int32)), mX3_keep s_x s_x_firstSlot s_x_now s_x_firstSlot_grants s_x_now_grants s_x_now_grants_cells s_x_firstSlot_grants_cells s_x_firstSlot_routes s_x_now_routes s_x_now_routes_cells s_x_firstSlot_routes_cells s_x_secondSlot s_x_secondSlot_grants s_x_secondSlot_grants_cells s_x_secondSlot_routes s_x_secondSlot_routes_cells v1 = some rx ∧ mX4_keep s_m_isKept s_m_now s_m_kept v1 = some rm ∧ rx.1 = rm.1 ∧ Rel rx.2.1 s_x_papers s_x_papers_cells s_x_now s_x_now_grants s_x_now_grants_cells s_x_now_routes s_x_now_routes_cells s_x_trial s_x_trial_grants s_x_trial_grants_cells s_x_trial_routes s_x_trial_routes_cells rx.2.2.1 rx.2.2.2.1 rx.2.2.2.2.1 rx.2.2.2.2.2.1 rx.2.2.2.2.2.2.1 rx.2.2.2.2.2.2.2.1 rx.2.2.2.2.2.2.2.2.1 rx.2.2.2.2.2.2.2.2.2.1 rx.2.2.2.2.2.2.2.2.2.2.1 rx.2.2.2.2.2.2.2.2.2.2.2 s_x_acts s_x_acts_cells s_x_seen s_x_seen_cells s_x_text s_x_text_letters s_x_text_papers s_x_text_papers_cells s_x_text_grants s_x_text_grants_cells s_x_text_routes s_x_text_routes_cells s_x_doings s_m s_m_text s_m_paper s_m_now s_m_trial s_m_diary rm.2.2 rm.2.1 s_m_seenAt s_m_worth s_m_readPaper s_m_read := by
  obtain ⟨P, bk, hs, k0, k1, sn, t, len, nx, hW, hC, hR⟩ := id h
  obtain ⟨wP, wB, wh1, wh2, wk0, wk1, ws1, ws2, wl1, wl2, wn⟩ := id hW
  obtain ⟨bG1, bR1, bG, bR, bD⟩ := id wB
  obtain ⟨cP, cN, cT, cK0, cK1, cA, cS, cX, cW, cM⟩ := id hC
  obtain ⟨cb, cg, cr⟩ := id cN
  obtain ⟨rM, rX, rP, rN, rD, rK, rS⟩ := id hR
  obtain ⟨m1, m2, m3, m4, m5, m6⟩ := id rM
  obtain ⟨n1, n2, z0, zg, z41, zr, z63, z64, z65⟩ := id rN
  have hday : bk.2.2.2.2 < 2 ^ 31 := by omega
  have hin : mX4_in v1.toInt64 (0 : Int64) (1 : Int64) = some (decide ((0 : Int32) ≤ v1 ∧ v1 ≤ 1)) := in_i v1 0 1
  rcases isK v1 2 1 (n := 2) rfl rfl (by decide) (by decide) with ⟨q, hq, rfl, g1, g2, g3, g4⟩ | ⟨g1, g2⟩
  · obtain ⟨r1, r2, r3, r4⟩ := id rK
    obtain ⟨f', ef, hf⟩ := keep_l (z := upd s_m_isKept q 1) (now := s_m_now) hq z41 s_m_kept FU 0 s_m_kept (Nat.zero_le _) (by rw [FU_eq]; decide) (fun j => by rw [if_neg (by omega)])
    have e4 : mX4_keep s_m_isKept s_m_now s_m_kept (nI q) = some (nI bk.2.1.length, upd s_m_isKept q 1, f') := by
      unfold mX4_keep
      rw [hin, decide_eq_true ⟨g4, g3⟩, Option.bind_some, if_pos rfl, wr_ok rfl hq (by decide)]
      exact ef
    rcases (show q = 0 ∨ q = 1 by omega) with rfl | rfl
    · obtain ⟨y, ey, hy⟩ := bcopy (bo' := s_x_firstSlot) cN cK0.1
      refine ⟨(s_x_now_routes.2.2, (s_x.1 ||| ((1 : Int32) <<< (nI 0 &&& 31)), s_x.2), y.1, y.2.1, y.2.2.1, y.2.2.2.1, y.2.2.2.2, s_x_secondSlot, s_x_secondSlot_grants, s_x_secondSlot_grants_cells, s_x_secondSlot_routes, s_x_secondSlot_routes_cells), (nI bk.2.1.length, upd s_m_isKept 0 1, f'), ?_, e4, cr.cnt, P, bk, hs, some bk, k1, sn, t, len, nx, ⟨wP, wB, wh1, wh2, fun b hb => by cases hb; exact wB, wk1, ws1, ws2, wl1, wl2, wn⟩, ⟨cP, cN, cT, ⟨hy.sh, fun b hb => by cases hb; exact hy⟩, cK1, cA, cS, cX, cW, by dsimp only; rw [cM]; exact km_or0 k0 k1 bk⟩, ⟨m1, m2, m3, m4, m5, m6⟩, rX, rP, rN, rD, ⟨show upd s_m_isKept 0 1 0 = (1 : Int32) from pk_us, by dsimp only; rw [pk_un (by decide)]; exact r2, fun b hb => ?_, fun b hb => ?_⟩, rS⟩
      · unfold mX3_keep
        rw [if_neg g1, if_pos (show nI 0 < (2 : Int32) by decide), if_pos (show nI 0 = (0 : Int32) from rfl), ey, Option.bind_some]
      · cases hb
        exact RowR.cong rN (fun j hj => by dsimp only; rw [hf, if_pos (by omega), show 66 * 0 + j - 66 * 0 = j by omega])
      · exact RowR.cong (r4 b hb) (fun j hj => by dsimp only; rw [hf, if_neg (by omega)])
    · obtain ⟨y, ey, hy⟩ := bcopy (bo' := s_x_secondSlot) cN cK1.1
      refine ⟨(s_x_now_routes.2.2, (s_x.1 ||| ((1 : Int32) <<< (nI 1 &&& 31)), s_x.2), s_x_firstSlot, s_x_firstSlot_grants, s_x_firstSlot_grants_cells, s_x_firstSlot_routes, s_x_firstSlot_routes_cells, y.1, y.2.1, y.2.2.1, y.2.2.2.1, y.2.2.2.2), (nI bk.2.1.length, upd s_m_isKept 1 1, f'), ?_, e4, cr.cnt, P, bk, hs, k0, some bk, sn, t, len, nx, ⟨wP, wB, wh1, wh2, wk0, fun b hb => by cases hb; exact wB, ws1, ws2, wl1, wl2, wn⟩, ⟨cP, cN, cT, cK0, ⟨hy.sh, fun b hb => by cases hb; exact hy⟩, cA, cS, cX, cW, by dsimp only; rw [cM]; exact km_or1 k0 k1 bk⟩, ⟨m1, m2, m3, m4, m5, m6⟩, rX, rP, rN, rD, ⟨by dsimp only; rw [pk_un (by decide)]; exact r1, show upd s_m_isKept 1 1 1 = (1 : Int32) from pk_us, fun b hb => ?_, fun b hb => ?_⟩, rS⟩
      · unfold mX3_keep
        rw [if_neg g1, if_pos (show nI 1 < (2 : Int32) by decide), if_neg (show ¬ nI 1 = (0 : Int32) by decide), ey, Option.bind_some]
      · exact RowR.cong (r3 b hb) (fun j hj => by dsimp only; rw [hf, if_neg (by omega)])
      · cases hb
        exact RowR.cong rN (fun j hj => by dsimp only; rw [hf, if_pos (by omega), show 66 * 1 + j - 66 * 1 = j by omega])
  · refine ⟨(-1, s_x, s_x_firstSlot, s_x_firstSlot_grants, s_x_firstSlot_grants_cells, s_x_firstSlot_routes, s_x_firstSlot_routes_cells, s_x_secondSlot, s_x_secondSlot_grants, s_x_secondSlot_grants_cells, s_x_secondSlot_routes, s_x_secondSlot_routes_cells), (-1, s_m_isKept, s_m_kept), ?_, ?_, rfl, h⟩
    · unfold mX3_keep
      by_cases q : v1 < 0
      · rw [if_pos q]
      · rw [if_neg q, if_neg (fun z => Int32.not_lt.mpr (g1.resolve_left q) z)]
    · unfold mX4_keep
      rw [hin, decide_eq_false g2]
      rfl
set_option maxHeartbeats 1000000 in
theorem L_again (h : Rel s_x s_x_papers s_x_papers_cells s_x_now s_x_now_grants s_x_now_grants_cells s_x_now_routes s_x_now_routes_cells s_x_trial s_x_trial_grants s_x_trial_grants_cells s_x_trial_routes s_x_trial_routes_cells s_x_firstSlot s_x_firstSlot_grants s_x_firstSlot_grants_cells s_x_firstSlot_routes s_x_firstSlot_routes_cells s_x_secondSlot s_x_secondSlot_grants s_x_secondSlot_grants_cells s_x_secondSlot_routes s_x_secondSlot_routes_cells s_x_acts s_x_acts_cells s_x_seen s_x_seen_cells s_x_text s_x_text_letters s_x_text_papers s_x_text_papers_cells s_x_text_grants s_x_text_grants_cells s_x_text_routes s_x_text_routes_cells s_x_doings s_m s_m_text s_m_paper s_m_now s_m_trial s_m_diary s_m_kept s_m_isKept s_m_seenAt s_m_worth s_m_readPaper s_m_read) (v1 : Int32) : ∃ (rx : Int32 × (Int32 × Int32 × Int32) × (Int32 × Int32 × Int32) × Ar × (Int32 × Int32 × Int32) × Ar × (Int32 × Int32 × Int32)) (rm : Int32 × (Int32 × Int32 × Int32 × Int32 × Int32 × Int32 × Int32 × Int32 × Int32 × Int64) × (Nat → Int32)), mX3_again s_x s_x_now s_x_firstSlot s_x_now_grants s_x_firstSlot_grants s_x_firstSlot_grants_cells s_x_now_grants_cells s_x_now_routes s_x_firstSlot_routes s_x_firstSlot_routes_cells s_x_now_routes_cells s_x_acts s_x_secondSlot s_x_secondSlot_grants s_x_secondSlot_grants_cells s_x_secondSlot_routes s_x_secondSlot_routes_cells v1 = some rx ∧ mX4_again s_m s_m_isKept s_m_now s_m_kept v1 = some rm ∧ rx.1 = rm.1 ∧ Rel s_x s_x_papers s_x_papers_cells rx.2.1 rx.2.2.1 rx.2.2.2.1 rx.2.2.2.2.1 rx.2.2.2.2.2.1 s_x_trial s_x_trial_grants s_x_trial_grants_cells s_x_trial_routes s_x_trial_routes_cells s_x_firstSlot s_x_firstSlot_grants s_x_firstSlot_grants_cells s_x_firstSlot_routes s_x_firstSlot_routes_cells s_x_secondSlot s_x_secondSlot_grants s_x_secondSlot_grants_cells s_x_secondSlot_routes s_x_secondSlot_routes_cells rx.2.2.2.2.2.2 s_x_acts_cells s_x_seen s_x_seen_cells s_x_text s_x_text_letters s_x_text_papers s_x_text_papers_cells s_x_text_grants s_x_text_grants_cells s_x_text_routes s_x_text_routes_cells s_x_doings rm.2.1 s_m_text s_m_paper rm.2.2 s_m_trial s_m_diary s_m_kept s_m_isKept s_m_seenAt s_m_worth s_m_readPaper s_m_read := by
  obtain ⟨P, bk, hs, k0, k1, sn, t, len, nx, hW, hC, hR⟩ := id h
  obtain ⟨wP, wB, wh1, wh2, wk0, wk1, ws1, ws2, wl1, wl2, wn⟩ := id hW
  obtain ⟨bG1, bR1, bG, bR, bD⟩ := id wB
  obtain ⟨cP, cN, cT, cK0, cK1, cA, cS, cX, cW, cM⟩ := id hC
  obtain ⟨cb, cg, cr⟩ := id cN
  obtain ⟨rM, rX, rP, rN, rD, rK, rS⟩ := id hR
  obtain ⟨m1, m2, m3, m4, m5, m6⟩ := id rM
  obtain ⟨n1, n2, z0, zg, z41, zr, z63, z64, z65⟩ := id rN
  have hday : bk.2.2.2.2 < 2 ^ 31 := by omega
  have hin : mX4_in v1.toInt64 (0 : Int64) (1 : Int64) = some (decide ((0 : Int32) ≤ v1 ∧ v1 ≤ 1)) := in_i v1 0 1
  have hacs : ∀ b : Bk, ActsC b [] (s_x_acts.1, s_x_acts.2.1, (0 : Int32)) s_x_acts_cells := by
    intro b
    obtain ⟨cell, ⟨q1, q2, q3, q4, q5, q6, q7⟩, _⟩ := cA
    exact ⟨cell, ⟨by rw [q1]; rfl, Nat.zero_le _, q3, q4, q5, q6, fun i hi => absurd hi (Nat.not_lt_zero i)⟩, fun j hj => absurd hj (Nat.not_lt_zero j)⟩
  have hsh : BooksSh s_x_now_grants s_x_now_grants_cells s_x_now_routes s_x_now_routes_cells := cN.sh
  rcases isK v1 2 1 (n := 2) rfl rfl (by decide) (by decide) with ⟨q, hq, rfl, g1, g2, g3, g4⟩ | ⟨g1, g2⟩
  · obtain ⟨r1, r2, r3, r4⟩ := id rK
    obtain ⟨f', ef, hf⟩ := again_l (z := s_m_isKept) (d := s_m_kept) (t := s_m) hq FU 0 s_m_now (Nat.zero_le _) (by rw [FU_eq]; decide) (fun j hj => by omega)
    rcases (show q = 0 ∨ q = 1 by omega) with rfl | rfl
    · cases ek : k0 with
      | none =>
        refine ⟨(-3, s_x_now, s_x_now_grants, s_x_now_grants_cells, s_x_now_routes, s_x_now_routes_cells, s_x_acts), (-3, s_m, s_m_now), ?_, ?_, rfl, h⟩
        · unfold mX3_again
          rw [if_neg g1, if_pos (show nI 0 < (2 : Int32) by decide), mbit, cM, km_bit0, ek, Option.bind_some]
          rfl
        · unfold mX4_again
          rw [hin, decide_eq_true ⟨g4, g3⟩, Option.bind_some, if_pos rfl, rd_ok rfl hq (by decide), r1, ek]
          rfl
      | some b =>
        have hb := cK0.2 b ek
        have hrow := r3 b ek
        obtain ⟨y, ey, hy⟩ := bcopy (bo' := s_x_now) hb hsh
        have h41 : s_m_kept (66 * 0 + 41) = nI b.2.1.length := hrow.2.2.2.2.1
        refine ⟨(y.2.2.2.1.2.2, y.1, y.2.1, y.2.2.1, y.2.2.2.1, y.2.2.2.2, (s_x_acts.1, s_x_acts.2.1, (0 : Int32))), (nI b.2.1.length, (s_m.1, s_m.2.1, 0, s_m.2.2.2.1, s_m.2.2.2.2.1, s_m.2.2.2.2.2.1, s_m.2.2.2.2.2.2.1, s_m.2.2.2.2.2.2.2.1, s_m.2.2.2.2.2.2.2.2.1, s_m.2.2.2.2.2.2.2.2.2), f'), ?_, ?_, hy.2.2.cnt, P, b, [], k0, k1, sn, t, len, nx, ⟨wP, wk0 b ek, Nat.zero_le _, fun j hj => absurd hj (Nat.not_lt_zero j), wk0, wk1, ws1, ws2, wl1, wl2, wn⟩, ⟨cP, hy, cT, cK0, cK1, hacs b, cS, cX, cW, cM⟩, ⟨m1, m2, rfl, m4, m5, m6⟩, rX, rP, RowR.cong hrow (fun j hj => hf j hj), fun j hj => absurd hj (Nat.not_lt_zero j), rK, rS⟩
        · unfold mX3_again
          rw [if_neg g1, if_pos (show nI 0 < (2 : Int32) by decide), mbit, cM, km_bit0, ek, Option.bind_some, if_neg (show ¬ b2i (some b).isSome = 0 from (by decide : ¬ b2i true = 0)), if_pos (show nI 0 = (0 : Int32) from rfl), ey, Option.bind_some]
        · unfold mX4_again
          rw [hin, decide_eq_true ⟨g4, g3⟩, Option.bind_some, if_pos rfl, rd_ok rfl hq (by decide), r1, ek, if_neg (show ¬ b2i (some b).isSome = 0 from (by decide : ¬ b2i true = 0)), ← h41]
          exact ef
    · cases ek : k1 with
      | none =>
        refine ⟨(-3, s_x_now, s_x_now_grants, s_x_now_grants_cells, s_x_now_routes, s_x_now_routes_cells, s_x_acts), (-3, s_m, s_m_now), ?_, ?_, rfl, h⟩
        · unfold mX3_again
          rw [if_neg g1, if_pos (show nI 1 < (2 : Int32) by decide), mbit, cM, km_bit1, ek, Option.bind_some]
          rfl
        · unfold mX4_again
          rw [hin, decide_eq_true ⟨g4, g3⟩, Option.bind_some, if_pos rfl, rd_ok rfl hq (by decide), r2, ek]
          rfl
      | some b =>
        have hb := cK1.2 b ek
        have hrow := r4 b ek
        obtain ⟨y, ey, hy⟩ := bcopy (bo' := s_x_now) hb hsh
        have h41 : s_m_kept (66 * 1 + 41) = nI b.2.1.length := hrow.2.2.2.2.1
        refine ⟨(y.2.2.2.1.2.2, y.1, y.2.1, y.2.2.1, y.2.2.2.1, y.2.2.2.2, (s_x_acts.1, s_x_acts.2.1, (0 : Int32))), (nI b.2.1.length, (s_m.1, s_m.2.1, 0, s_m.2.2.2.1, s_m.2.2.2.2.1, s_m.2.2.2.2.2.1, s_m.2.2.2.2.2.2.1, s_m.2.2.2.2.2.2.2.1, s_m.2.2.2.2.2.2.2.2.1, s_m.2.2.2.2.2.2.2.2.2), f'), ?_, ?_, hy.2.2.cnt, P, b, [], k0, k1, sn, t, len, nx, ⟨wP, wk1 b ek, Nat.zero_le _, fun j hj => absurd hj (Nat.not_lt_zero j), wk0, wk1, ws1, ws2, wl1, wl2, wn⟩, ⟨cP, hy, cT, cK0, cK1, hacs b, cS, cX, cW, cM⟩, ⟨m1, m2, rfl, m4, m5, m6⟩, rX, rP, RowR.cong hrow (fun j hj => hf j hj), fun j hj => absurd hj (Nat.not_lt_zero j), rK, rS⟩
        · unfold mX3_again
          rw [if_neg g1, if_pos (show nI 1 < (2 : Int32) by decide), mbit, cM, km_bit1, ek, Option.bind_some, if_neg (show ¬ b2i (some b).isSome = 0 from (by decide : ¬ b2i true = 0)), if_neg (show ¬ nI 1 = (0 : Int32) by decide), ey, Option.bind_some]
        · unfold mX4_again
          rw [hin, decide_eq_true ⟨g4, g3⟩, Option.bind_some, if_pos rfl, rd_ok rfl hq (by decide), r2, ek, if_neg (show ¬ b2i (some b).isSome = 0 from (by decide : ¬ b2i true = 0)), ← h41]
          exact ef
  · refine ⟨(-1, s_x_now, s_x_now_grants, s_x_now_grants_cells, s_x_now_routes, s_x_now_routes_cells, s_x_acts), (-1, s_m, s_m_now), ?_, ?_, rfl, h⟩
    · unfold mX3_again
      by_cases q : v1 < 0
      · rw [if_pos q]
      · rw [if_neg q, if_neg (fun z => Int32.not_lt.mpr (g1.resolve_left q) z)]
    · unfold mX4_again
      rw [hin, decide_eq_false g2]
      rfl
end L2
