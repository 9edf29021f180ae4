section SI
variable {P : List PN} {G : List GN} {R : List RN} {rev aside : Int32} {day : Nat} {f w : Nat → Int32}
theorem worth_l (hP : PLok P) (hG : ∀ k, k < G.length → gOk P.length (gA G k)) (hn : G.length ≤ 8) (hR : ∀ k, k < R.length → rOk (rA R k)) (h : PapR P f) (hr : RowR G R rev aside day w) (hday : day < 2 ^ 31) (v1 : Int32) (v2 : Bool) : ∀ (m S : Nat) (g : Nat → Int32), S ≤ 2 ^ G.length → 2 ^ G.length - S < m → (∀ j, j < S → g j = nI (wR (MK P G R rev aside day) G.length R.length j)) → ∃ g', mX4_share_b20 w f v1 v2 (nI G.length) m (nI S) g = mX4_share_b53 w g' f v1 v2 (nI G.length) FU 0 0 ∧ ∀ j, j < 2 ^ G.length → g' j = nI (wR (MK P G R rev aside day) G.length R.length j) := by
  have hp : 2 ^ G.length ≤ 256 := Nat.pow_le_pow_right (n := 2) (by decide) hn
  intro m
  induction m with
  | zero => intro S g h1 h2; omega
  | succ m ih =>
    intro S g h1 h2 h3
    rw [mX4_share_b20, sh1 _ (by omega)]
    by_cases hi : S < 2 ^ G.length
    · rw [if_neg (nI_ge hi (by omega)), rightBy_r hP hG hn hR h hr hday (by omega), Option.bind_some, wr_ok rfl (by omega) (by decide), nI_1]
      refine ih (S + 1) _ hi (by omega) (fun j hj => ?_)
      by_cases z : j = S
      · subst z; rw [pk_us]
      · rw [pk_un z, h3 j (by omega)]
    · have : S = 2 ^ G.length := by omega
      subst this
      rw [if_pos (nI_le (Nat.le_refl _) (by omega))]
      exact ⟨g, rfl, h3⟩
theorem share_rl {M : Nat → Nat → Bool} {n nr i : Nat} (hn : n ≤ 8) (hnr : nr ≤ 7) (hi : i < n) {g : Nat → Int32} (hg : ∀ j, j < 2 ^ n → g j = nI (wR M n nr j)) (v2 : Bool) : ∀ (m S : Nat), S ≤ 2 ^ n → 2 ^ n - S < m → mX4_share_b53 w g f (nI i) v2 (nI n) m (nI (sumN (fun S => if S.testBit i = true then 0 else wt n (popN S) * (wR M n nr (S ||| 2 ^ i) - wR M n nr S)) S)) (nI S) = (mX4_fraction (nI (shA M n i nr)) (nI (fa n)) v2).bind (fun x130 => some (x130, g)) := by
  have hp : 2 ^ n ≤ 256 := Nat.pow_le_pow_right (n := 2) (by decide) hn
  have hp0 : 0 < 2 ^ n := Nat.two_pow_pos n
  intro m
  induction m with
  | zero => intro S h1 h2; omega
  | succ m ih =>
    intro S h1 h2
    rw [mX4_share_b53, sh1 n (by omega)]
    by_cases hS : S < 2 ^ n
    · have hs := sumN_s (fun S => if S.testBit i = true then 0 else wt n (popN S) * (wR M n nr (S ||| 2 ^ i) - wR M n nr S)) S
      rw [if_neg (nI_ge hS (by omega)), mhas, bi_nat (by omega) (by omega), Option.bind_some, nI_1]
      cases y : S.testBit i with
      | true =>
        have hs' : sumN (fun S => if S.testBit i = true then 0 else wt n (popN S) * (wR M n nr (S ||| 2 ^ i) - wR M n nr S)) (S + 1) = sumN (fun S => if S.testBit i = true then 0 else wt n (popN S) * (wR M n nr (S ||| 2 ^ i) - wR M n nr S)) S := by
          rw [hs, y, if_pos rfl]
          rfl
        rw [if_pos rfl, ← hs']
        exact ih (S + 1) hS (by omega)
      | false =>
        have hp1 := pop_lt hn hi hS y
        have ho : S ||| 2 ^ i < 2 ^ n := Nat.or_lt_two_pow hS (Nat.pow_lt_pow_right (by decide) hi)
        have hle : wR M n nr S ≤ wR M n nr (S ||| 2 ^ i) := by rw [wR_or M hi]; exact Nat.le_add_right _ _
        have hs' : sumN (fun S => if S.testBit i = true then 0 else wt n (popN S) * (wR M n nr (S ||| 2 ^ i) - wR M n nr S)) (S + 1) = sumN (fun S => if S.testBit i = true then 0 else wt n (popN S) * (wR M n nr (S ||| 2 ^ i) - wR M n nr S)) S + fa (popN S) * fa (n - 1 - popN S) * (wR M n nr (S ||| 2 ^ i) - wR M n nr S) := by
          rw [hs, y, if_neg Bool.false_ne_true]
          rfl
        rw [if_neg Bool.false_ne_true, ones_r (by omega), Option.bind_some, fact_r (by omega), Option.bind_some, L1, pk_sub (by omega), pk_sub hp1, fact_r (by omega), Option.bind_some, show nI S ||| (nI 1 <<< (nI i &&& 31)) = nI (S ||| 2 ^ i) by rw [← L1, sh1 i (by omega), nI_or], rd_ok rfl (by omega) (by decide), hg _ ho, rd_ok rfl (by omega) (by decide), hg S hS, pk_sub hle, pk_mul, pk_mul, nI_add, ← hs']
        exact ih (S + 1) hS (by omega)
    · have : S = 2 ^ n := by omega
      subst this
      rw [if_pos (nI_le (Nat.le_refl _) (by omega)), fact_r hn, Option.bind_some, ref_sum M hn hi nr]
end SI
section L2
variable {s_x : Int32 × Int64} {s_x_papers : Int32 × Int32 × Int32} {s_x_papers_cells : Ar} {s_x_now : Int32 × Int32 × Int32} {s_x_now_grants : Int32 × Int32 × Int32} {s_x_now_grants_cells : Ar} {s_x_now_routes : Int32 × Int32 × Int32} {s_x_now_routes_cells : Ar} {s_x_trial : Int32 × Int32 × Int32} {s_x_trial_grants : Int32 × Int32 × Int32} {s_x_trial_grants_cells : Ar} {s_x_trial_routes : Int32 × Int32 × Int32} {s_x_trial_routes_cells : Ar} {s_x_firstSlot : Int32 × Int32 × Int32} {s_x_firstSlot_grants : Int32 × Int32 × Int32} {s_x_firstSlot_grants_cells : Ar} {s_x_firstSlot_routes : Int32 × Int32 × Int32} {s_x_firstSlot_routes_cells : Ar} {s_x_secondSlot : Int32 × Int32 × Int32} {s_x_secondSlot_grants : Int32 × Int32 × Int32} {s_x_secondSlot_grants_cells : Ar} {s_x_secondSlot_routes : Int32 × Int32 × Int32} {s_x_secondSlot_routes_cells : Ar} {s_x_acts : Int32 × Int32 × Int32} {s_x_acts_cells : Ar} {s_x_seen : Int32 × Int32 × Int32} {s_x_seen_cells : Ar} {s_x_text : Int32 × Int32 × Int32} {s_x_text_letters : Nat → Int32} {s_x_text_papers : Int32 × Int32 × Int32} {s_x_text_papers_cells : Ar} {s_x_text_grants : Int32 × Int32 × Int32} {s_x_text_grants_cells : Ar} {s_x_text_routes : Int32 × Int32 × Int32} {s_x_text_routes_cells : Ar} {s_x_doings : Nat → Int32} {s_m : Int32 × Int32 × Int32 × Int32 × Int32 × Int32 × Int32 × Int32 × Int32 × Int64} {s_m_text : Nat → Int32} {s_m_paper : Nat → Int32} {s_m_now : Nat → Int32} {s_m_trial : Nat → Int32} {s_m_diary : Nat → Int32} {s_m_kept : Nat → Int32} {s_m_isKept : Nat → Int32} {s_m_seenAt : Nat → Int32} {s_m_worth : Nat → Int32} {s_m_readPaper : Nat → Int32} {s_m_read : Nat → Int32}
set_option maxHeartbeats 1000000 in
theorem L_share (h : Rel s_x s_x_papers s_x_papers_cells s_x_now s_x_now_grants s_x_now_grants_cells s_x_now_routes s_x_now_routes_cells s_x_trial s_x_trial_grants s_x_trial_grants_cells s_x_trial_routes s_x_trial_routes_cells s_x_firstSlot s_x_firstSlot_grants s_x_firstSlot_grants_cells s_x_firstSlot_routes s_x_firstSlot_routes_cells s_x_secondSlot s_x_secondSlot_grants s_x_secondSlot_grants_cells s_x_secondSlot_routes s_x_secondSlot_routes_cells s_x_acts s_x_acts_cells s_x_seen s_x_seen_cells s_x_text s_x_text_letters s_x_text_papers s_x_text_papers_cells s_x_text_grants s_x_text_grants_cells s_x_text_routes s_x_text_routes_cells s_x_doings s_m s_m_text s_m_paper s_m_now s_m_trial s_m_diary s_m_kept s_m_isKept s_m_seenAt s_m_worth s_m_readPaper s_m_read) (v1 : Int32) (v2 : Bool) : ∃ (rx : Int32) (rm : Int32 × (Nat → Int32)), mX3_share s_x_now s_x_now_grants s_x_papers s_x_papers_cells s_x_now_grants_cells s_x_now_routes s_x_now_routes_cells v1 v2 = some rx ∧ mX4_share s_m_now s_m_worth s_m_paper v1 v2 = some rm ∧ rx = rm.1 ∧ Rel s_x s_x_papers s_x_papers_cells s_x_now s_x_now_grants s_x_now_grants_cells s_x_now_routes s_x_now_routes_cells s_x_trial s_x_trial_grants s_x_trial_grants_cells s_x_trial_routes s_x_trial_routes_cells s_x_firstSlot s_x_firstSlot_grants s_x_firstSlot_grants_cells s_x_firstSlot_routes s_x_firstSlot_routes_cells s_x_secondSlot s_x_secondSlot_grants s_x_secondSlot_grants_cells s_x_secondSlot_routes s_x_secondSlot_routes_cells s_x_acts s_x_acts_cells s_x_seen s_x_seen_cells s_x_text s_x_text_letters s_x_text_papers s_x_text_papers_cells s_x_text_grants s_x_text_grants_cells s_x_text_routes s_x_text_routes_cells s_x_doings s_m s_m_text s_m_paper s_m_now s_m_trial s_m_diary s_m_kept s_m_isKept s_m_seenAt rm.2 s_m_readPaper s_m_read := by
  obtain ⟨P, bk, hs, k0, k1, sn, t, len, nx, hW, hC, hR⟩ := id h
  obtain ⟨wP, wB, wh1, wh2, wk0, wk1, ws1, ws2, wl1, wl2, wn⟩ := id hW
  obtain ⟨bG1, bR1, bG, bR, bD⟩ := id wB
  obtain ⟨cP, cN, cT, cK0, cK1, cA, cS, cX, cW, cM⟩ := id hC
  obtain ⟨cb, cg, cr⟩ := id cN
  obtain ⟨rM, rX, rP, rN, rD, rK, rS⟩ := id hR
  obtain ⟨m1, m2, m3, m4, m5, m6⟩ := id rM
  obtain ⟨n1, n2, z0, zg, z41, zr, z63, z64, z65⟩ := id rN
  have hday : bk.2.2.2.2 < 2 ^ 31 := by omega
  rcases idx_both cg v1 with ⟨i, hi, rfl, e1, e2⟩ | ⟨hne, e1, e2⟩
  · have hf := fa_b bk.1.length (by omega)
    obtain ⟨q1, q2, q3⟩ := sh_eq (MK P bk.1 bk.2.1 bk.2.2.1 bk.2.2.2.1 bk.2.2.2.2) bG1 hi bk.2.1.length
    have q2' : shA (MK P bk.1 bk.2.1 bk.2.2.1 bk.2.2.2.1 bk.2.2.2.2) bk.1.length i bk.2.1.length ≤ 6 * 40320 := Nat.le_trans q2 (Nat.mul_le_mul_right _ bR1)
    have q3' : shB (MK P bk.1 bk.2.1 bk.2.2.1 bk.2.2.2.1 bk.2.2.2.2) bk.1.length i bk.2.1.length ≤ 6 * 840 := Nat.le_trans q3 (Nat.mul_le_mul_right _ bR1)
    obtain ⟨g', eg, hg⟩ := worth_l wP bG bG1 bR rP rN hday (nI i) v2 FU 0 s_m_worth (Nat.zero_le _) (by have : 2 ^ bk.1.length ≤ 256 := Nat.pow_le_pow_right (n := 2) (by decide) bG1; rw [FU_eq]; omega) (fun j hj => absurd hj (Nat.not_lt_zero j))
    have ec := share_cl (bo := s_x_now) (po := s_x_papers) (pa := s_x_papers_cells) (P := P) (rev := bk.2.2.1) (aside := bk.2.2.2.1) (day := bk.2.2.2.2) wP bG bG1 bR n2 cg cr hi v2 FU 0 (Nat.zero_le _) (by rw [FU_eq]; omega)
    have er := share_rl (w := s_m_now) (f := s_m_paper) bG1 n2 hi hg v2 FU 0 (Nat.zero_le _) (by have : 2 ^ bk.1.length ≤ 256 := Nat.pow_le_pow_right (n := 2) (by decide) bG1; rw [FU_eq]; omega)
    have ef := frac_eq (a := shA (MK P bk.1 bk.2.1 bk.2.2.1 bk.2.2.2.1 bk.2.2.2.2) bk.1.length i bk.2.1.length) (d := fa bk.1.length) (b := shB (MK P bk.1 bk.2.1 bk.2.2.1 bk.2.2.2.1 bk.2.2.2.2) bk.1.length i bk.2.1.length) (e := 840) (by omega) hf.1 (by omega) (by omega) (by decide) (by decide) q1 v2
    have ev := frac_r (a := shA (MK P bk.1 bk.2.1 bk.2.2.1 bk.2.2.2.1 bk.2.2.2.2) bk.1.length i bk.2.1.length) (by omega) hf.1 (by omega) v2
    obtain ⟨V, hV⟩ : ∃ V, V = nI ((if v2 = true then shA (MK P bk.1 bk.2.1 bk.2.2.1 bk.2.2.2.1 bk.2.2.2.2) bk.1.length i bk.2.1.length else fa bk.1.length) / Nat.gcd (shA (MK P bk.1 bk.2.1 bk.2.2.1 bk.2.2.2.1 bk.2.2.2.2) bk.1.length i bk.2.1.length) (fa bk.1.length)) := ⟨_, rfl⟩
    rw [← hV] at ev
    refine ⟨V, (V, g'), ?_, ?_, rfl, P, bk, hs, k0, k1, sn, t, len, nx, hW, hC, hR⟩
    · unfold mX3_share
      rw [e1, Option.bind_some, if_pos rfl, countingNow_ok wP bG cP cg cb hday, Option.bind_some]
      exact ec.trans (ef.trans ev)
    · unfold mX4_share
      rw [isGrant_r rN, e2, Option.bind_some, if_pos rfl, rd_ok (show (0 : Int32) = nI 0 from rfl) (by decide) (by decide), z0]
      refine (eg.trans er).trans ?_
      rw [ev, Option.bind_some]
  · refine ⟨-1, (-1, s_m_worth), ?_, ?_, rfl, h⟩
    · unfold mX3_share
      rw [e1]
      rfl
    · unfold mX4_share
      rw [isGrant_r rN, e2]
      rfl
end L2
