section TA
variable {len : Nat} {L T : Nat → Int32} {q : Nat → Nat}
theorem all_f {f : Nat} (hf : f < 2 ^ 31) (m : Nat) (v : Int32) (po go ro : I3) (pa ga ra : Ar) : mX2_readAll_b64 L (m + 1) v (nI len, nI f, nI f) po pa go ro ra ga = some (nI f, (nI len, nI f, nI f), po, pa, go, ro, ra, ga) := by
  rw [mX2_readAll_b64]
  dsimp only
  split
  · rfl
  · split
    · rfl
    · rw [if_neg (nI_m9 hf)]
theorem all_l (hlen : len ≤ 99) (hL : ∀ j, j < len → L j = nI (q j)) (hT : ∀ j, j < len → T j = nI (q j)) (hq : ∀ j, j < len → q j < 256) (b : MO) (hb : b.1 = nI len) : ∀ (m m' v a : Nat) (P : List PN) (G : List GN) (R : List RN) (po go ro : I3) (pa ga ra : Ar) (rr rp : Nat → Int32) (st ln : Int32), v < a → a ≤ len → len - a + 1 < m → len - a < m' → RSok P G R → RSc P G R po pa go ga ro ra → RSr P G R rr rp →
    ∃ ans c po' pa' go' ga' ro' ra' at' np' st' ln' rr' rp', mX2_readAll_b64 L m (nI v) (nI len, nI a, (-9 : Int32)) po pa go ro ra ga = some (ans, (nI len, c), po', pa', go', ro', ra', ga') ∧ mX4_readText_b51 T m' (mkT b (nI a) (nI P.length) st ln) rr rp = some (ans, mkT b at' np' st' ln', rr', rp') ∧ (RowsSh 6 5 po' pa' ∧ RowsSh 8 6 go' ga' ∧ RowsSh 6 4 ro' ra') ∧ (ans = (-9 : Int32) → ∃ P' G' R', RSok P' G' R' ∧ RSc P' G' R' po' pa' go' ga' ro' ra' ∧ RSr P' G' R' rr' rp' ∧ np' = nI P'.length) := by
  intro m
  induction m with
  | zero => intro m' v a P G R po go ro pa ga ra rr rp st ln h1 h2 h3; omega
  | succ m ih =>
    intro m' v a P G R po go ro pa ga ra rr rp st ln h1 h2 h3 h4 hk hc hr
    obtain ⟨m', rfl⟩ : ∃ k, m' = k + 1 := ⟨m' - 1, by omega⟩
    rw [mX2_readAll_b64, mX4_readText_b51]
    dsimp only
    rw [if_neg (show ¬ (99 : Int32) ≤ nI v by rw [L99]; exact nI_ge (by omega) (by decide))]
    by_cases hi : a < len
    · rw [if_neg (nI_ge hi (by omega)), if_pos rfl, if_neg (show ¬ b.1 ≤ nI a by rw [hb]; exact nI_ge hi (by omega)), nI_1]
      rcases readPart_l hlen hL hT hq hi b hb st ln hk hc hr with ⟨P', G', R', e, st', ln', po', pa', go', ga', ro', ra', rr', rp', x1, x2, x3, x4, x5, x6, x7⟩ | ⟨f, st', ln', x1, x2, x3⟩
      · rw [x4, Option.bind_some, x6, Option.bind_some, if_pos rfl]
        exact ih m' (v + 1) e P' G' R' po' go' ro' pa' ga' ra' rr' rp' st' ln' (by omega) x2 (by omega) (by omega) x1 x5 x7
      · obtain ⟨m, rfl⟩ : ∃ k, m = k + 1 := ⟨m - 1, by omega⟩
        rw [x2, Option.bind_some, x3, Option.bind_some, if_neg Bool.false_ne_true]
        dsimp only
        rw [all_f (by omega)]
        exact ⟨nI f, (nI f, nI f), po, pa, go, ga, ro, ra, nI f, nI P.length, st', ln', rr, rp, rfl, rfl, ⟨hc.1.sh, hc.2.1.sh, hc.2.2.sh⟩, fun z => absurd z (nI_m9 (by omega))⟩
    · have : a = len := by omega
      subst this
      rw [if_pos (nI_le (Nat.le_refl _) (by omega)), if_pos (show b.1 ≤ nI a by rw [hb]; exact nI_le (Nat.le_refl _) (by omega))]
      exact ⟨-9, (nI a, -9), po, pa, go, ga, ro, ra, nI a, nI P.length, st, ln, rr, rp, rfl, rfl, ⟨hc.1.sh, hc.2.1.sh, hc.2.2.sh⟩, fun _ => ⟨P, G, R, hk, hc, hr, rfl⟩⟩
theorem zero_l (t : MO) (rp : Nat → Int32) : ∀ (m i : Nat) (g : Nat → Int32), i ≤ 66 → 66 - i < m → (∀ j, j < i → g j = 0) → ∃ g', mX4_readText_b7 t T rp m (nI i) g = (if t.1 = (0 : Int32) then some ((0 : Int32), t, g', rp) else rd T 99 (0 : Int32) (fun x38 => (if x38 = (80 : Int32) then mX4_readText_b51 T FU (t.1, t.2.1, t.2.2.1, t.2.2.2.1, t.2.2.2.2.1, (1 : Int32), t.2.2.2.2.2.2.1, t.2.2.2.2.2.2.2.1, t.2.2.2.2.2.2.2.2.1, t.2.2.2.2.2.2.2.2.2) g' rp else some ((0 : Int32), t, g', rp)))) ∧ ∀ j, j < 66 → g' j = 0 := by
  intro m
  induction m with
  | zero => intro i g h1 h2; omega
  | succ m ih =>
    intro i g h1 h2 h3
    rw [mX4_readText_b7]
    by_cases hi : i < 66
    · rw [if_neg (show ¬ (66 : Int32) ≤ nI i by rw [L66]; exact nI_ge hi (by decide)), wr_ok rfl hi (by decide), nI_1]
      refine ih (i + 1) _ hi (by omega) (fun j hj => ?_)
      by_cases z : j = i
      · subst z; rw [pk_us]
      · rw [pk_un z, h3 j (by omega)]
    · have : i = 66 := by omega
      subst this
      rw [if_pos (show (66 : Int32) ≤ nI 66 by decide)]
      exact ⟨g, rfl, h3⟩
theorem RowsSh.nil {lim w : Nat} {o : I3} {a : Ar} (h : RowsSh lim w o a) (cell : Nat → Nat → Int32) : RowsIs lim w 0 cell (o.1, o.2.1, (0 : Int32)) a := by
  obtain ⟨h1, h2, h3, h4, h5, h6⟩ := h
  exact ⟨by rw [h1, h2]; rfl, Nat.zero_le _, h3, h4, h5, h6, fun i hi => absurd hi (Nat.not_lt_zero i)⟩
theorem readAll_l (hlen : len ≤ 99) (hL : ∀ j, j < len → L j = nI (q j)) (hT : ∀ j, j < len → T j = nI (q j)) (hq : ∀ j, j < len → q j < 256) (s : MO) (hb : s.1 = nI len) {po go ro : I3} {pa ga ra : Ar} (h1 : RowsSh 6 5 po pa) (h2 : RowsSh 8 6 go ga) (h3 : RowsSh 6 4 ro ra) (x y : Int32) (rr rp : Nat → Int32) :
    ∃ ans c po' pa' go' ga' ro' ra' at' np' st' ln' rr' rp', mX2_readAll (nI len, x, y) po pa go ro L ra ga = some (ans, (nI len, c), po', pa', go', ro', ra', ga') ∧ mX4_readText s T rr rp = some (ans, mkT s at' np' st' ln', rr', rp') ∧ (RowsSh 6 5 po' pa' ∧ RowsSh 8 6 go' ga' ∧ RowsSh 6 4 ro' ra') ∧ (ans = (-9 : Int32) → ∃ P' G' R', RSok P' G' R' ∧ RSc P' G' R' po' pa' go' ga' ro' ra' ∧ RSr P' G' R' rr' rp' ∧ np' = nI P'.length) := by
  obtain ⟨o1, a1, e1, r1⟩ := add_ok (h1.nil (fun _ _ => 0)) (by decide) (by decide) (by decide) 0 0 (by decide) (-9) (-9) 0
  have hPap : PapC [((0 : Nat), (0 : Nat), (0 : Nat), (0 : Nat))] o1 a1 := RowsIs.cong r1 (fun i hi c hc => by
    have hi' : i < 1 := hi
    have : i = 0 := by omega
    subst this
    rw [if_pos rfl]
    rfl)
  have hGr : GrC [] (go.1, go.2.1, (0 : Int32)) ga := h2.nil _
  have hRt : RtT [] (ro.1, ro.2.1, (0 : Int32)) ra := h3.nil _
  have hk : RSok [((0 : Nat), (0 : Nat), (0 : Nat), (0 : Nat))] [] [] := ⟨⟨by decide, by decide, rfl, fun i i0 hi => absurd hi (by simp only [List.length_cons, List.length_nil]; omega)⟩, by decide, fun k hk => absurd hk (Nat.not_lt_zero k), by decide, fun k hk => absurd hk (Nat.not_lt_zero k)⟩
  obtain ⟨g', eg, hg⟩ := zero_l (T := T) (mkT s s.2.2.2.2.2.1 (1 : Int32) s.2.2.2.2.2.2.2.1 s.2.2.2.2.2.2.2.2.1) rp FU 0 rr (Nat.zero_le _) (by rw [FU_eq]; decide) (fun j hj => absurd hj (Nat.not_lt_zero j))
  have hrow : RowR [] [] 0 0 0 g' := ⟨by decide, by decide, hg 0 (by decide), fun i hi => absurd hi (Nat.not_lt_zero i), hg 41 (by decide), fun i hi => absurd hi (Nat.not_lt_zero i), hg 63 (by decide), hg 64 (by decide), hg 65 (by decide)⟩
  have er : mX4_readText s T rr rp = mX4_readText_b7 (mkT s s.2.2.2.2.2.1 (1 : Int32) s.2.2.2.2.2.2.2.1 s.2.2.2.2.2.2.2.2.1) T rp FU (nI 0) rr := rfl
  have ea : mX1_addRange (po.1, po.2.1, (0 : Int32)) pa (0 : Int32) (0 : Int32) (-9 : Int32) (-9 : Int32) (0 : Int32) = some (nI 0, o1, a1) := e1
  rw [er, eg]
  unfold mX2_readAll
  dsimp only
  rw [ea, Option.bind_some]
  have no : ∀ (w : Int32), ¬ w = (80 : Int32) → ∀ B : Option (Int32 × MO × (Nat → Int32) × (Nat → Int32)), B = some ((0 : Int32), mkT s s.2.2.2.2.2.1 (1 : Int32) s.2.2.2.2.2.2.2.1 s.2.2.2.2.2.2.2.2.1, g', rp) → ∃ ans c po' pa' go' ga' ro' ra' at' np' st' ln' rr' rp', (if w = (80 : Int32) then mX2_readAll_b64 L FU (0 : Int32) (nI len, (1 : Int32), (-9 : Int32)) o1 a1 (go.1, go.2.1, (0 : Int32)) (ro.1, ro.2.1, (0 : Int32)) ra ga else some ((0 : Int32), (nI len, x, (-9 : Int32)), o1, a1, (go.1, go.2.1, (0 : Int32)), (ro.1, ro.2.1, (0 : Int32)), ra, ga)) = some (ans, (nI len, c), po', pa', go', ro', ra', ga') ∧ B = some (ans, mkT s at' np' st' ln', rr', rp') ∧ (RowsSh 6 5 po' pa' ∧ RowsSh 8 6 go' ga' ∧ RowsSh 6 4 ro' ra') ∧ (ans = (-9 : Int32) → ∃ P' G' R', RSok P' G' R' ∧ RSc P' G' R' po' pa' go' ga' ro' ra' ∧ RSr P' G' R' rr' rp' ∧ np' = nI P'.length) := by
    intro w hw B hB
    rw [if_neg hw]
    exact ⟨0, (x, -9), o1, a1, _, ga, _, ra, _, _, _, _, g', rp, rfl, hB, ⟨hPap.sh, hGr.sh, hRt.sh⟩, fun z => absurd z (by decide)⟩
  by_cases l0 : len = 0
  · rw [show mX2_letterAt (nI len, x, (-9 : Int32)) L (0 : Int32) = some 0 from letter_out hlen (i := 0) (by omega) (by decide) _ _, Option.bind_some]
    refine no 0 (by decide) _ ?_
    rw [if_pos (show s.1 = (0 : Int32) by rw [hb, l0]; rfl)]
  · have hq0 := hq 0 (by omega)
    rw [show mX2_letterAt (nI len, x, (-9 : Int32)) L (0 : Int32) = some (nI (q 0)) from letter_in hlen hL hq (i := 0) (by omega) _ _, Option.bind_some, if_neg (show ¬ s.1 = (0 : Int32) from fun z => l0 ((nI_eq (b := 0) (by omega) (by decide)).mp (hb.symm.trans z))), rd_ok (show (0 : Int32) = nI 0 from rfl) (by decide) (by decide), hT 0 (by omega)]
    by_cases h80 : q 0 = 80
    · have e80 : nI (q 0) = (80 : Int32) := by rw [h80]; rfl
      rw [if_pos e80, if_pos e80]
      exact all_l hlen hL hT hq s hb FU FU 0 1 _ _ _ o1 _ _ a1 ga ra g' rp _ _ (by decide) (by omega) (by rw [FU_eq]; omega) (by rw [FU_eq]; omega) hk ⟨hPap, hGr, hRt⟩ ⟨hrow, fun i i0 hi => absurd hi (by simp only [List.length_cons, List.length_nil]; omega)⟩
    · have n80 : ¬ nI (q 0) = (80 : Int32) := fun z => h80 ((nI_eq (b := 80) (by omega) (by decide)).mp z)
      refine no _ n80 _ ?_
      rw [if_neg n80]
theorem tree_l {P : List PN} (hP6 : P.length ≤ 6) {t : MO} (ht : t.2.1 = nI P.length) (rr rp now kp : Nat → Int32) : ∀ (m i : Nat) (g : Nat → Int32), 4 ≤ i → i ≤ 4 * P.length → 4 * P.length - i < m → ∃ g' w z, mX4_tree_b22 t T rr rp now kp m (nI i) g = some (nI P.length, (t.1, t.2.1, (0 : Int32), t.2.2.2.1, t.2.2.2.2.1, t.2.2.2.2.2.1, t.2.2.2.2.2.2.1, t.2.2.2.2.2.2.2.1, t.2.2.2.2.2.2.2.2.1, t.2.2.2.2.2.2.2.2.2), rr, rp, w, z, g') ∧ (∀ j, j < 66 → w j = rr j) ∧ z 0 = 0 ∧ z 1 = 0 ∧ ∀ j, g' j = if i ≤ j ∧ j < 4 * P.length then rp j else g j := by
  intro m
  induction m with
  | zero => intro i g h0 h1 h2; omega
  | succ m ih =>
    intro i g h0 h1 h2
    rw [mX4_tree_b22, show (4 : Int32) * t.2.1 = nI (4 * P.length) by rw [ht]; exact pk_mul 4 _]
    by_cases hi : i < 4 * P.length
    · rw [if_neg (nI_ge hi (by omega)), rd_ok rfl (by omega) (by decide), wr_ok rfl (by omega) (by decide), nI_1]
      obtain ⟨g', w, z, e, w1, w2, w3, w4⟩ := ih (i + 1) (upd g i (rp i)) (by omega) hi (by omega)
      refine ⟨g', w, z, e, w1, w2, w3, fun j => ?_⟩
      rw [w4 j]
      by_cases y : j = i
      · subst y
        rw [if_neg (by omega), if_pos (by omega), pk_us]
      · rw [pk_un y]
        by_cases y2 : i + 1 ≤ j ∧ j < 4 * P.length
        · rw [if_pos y2, if_pos (by omega)]
        · rw [if_neg y2, if_neg (by omega)]
    · have : i = 4 * P.length := by omega
      subst this
      obtain ⟨w, ew, hw⟩ := copy_r rr now
      rw [if_pos (nI_le (Nat.le_refl _) (by omega)), ew, Option.bind_some, L0, wr_ok rfl (by decide) (by decide), L1, wr_ok rfl (by decide) (by decide)]
      refine ⟨g, w, upd (upd kp 0 (nI 0)) 1 (nI 0), by rw [ht], hw, ?_, pk_us, fun j => by rw [if_neg (by omega)]⟩
      rw [pk_un (by decide), pk_us]
end TA
section L2
variable {s_x : Int32 × Int64} {s_x_papers : Int32 × Int32 × Int32} {s_x_papers_cells : Ar} {s_x_now : Int32 × Int32 × Int32} {s_x_now_grants : Int32 × Int32 × Int32} {s_x_now_grants_cells : Ar} {s_x_now_routes : Int32 × Int32 × Int32} {s_x_now_routes_cells : Ar} {s_x_trial : Int32 × Int32 × Int32} {s_x_trial_grants : Int32 × Int32 × Int32} {s_x_trial_grants_cells : Ar} {s_x_trial_routes : Int32 × Int32 × Int32} {s_x_trial_routes_cells : Ar} {s_x_firstSlot : Int32 × Int32 × Int32} {s_x_firstSlot_grants : Int32 × Int32 × Int32} {s_x_firstSlot_grants_cells : Ar} {s_x_firstSlot_routes : Int32 × Int32 × Int32} {s_x_firstSlot_routes_cells : Ar} {s_x_secondSlot : Int32 × Int32 × Int32} {s_x_secondSlot_grants : Int32 × Int32 × Int32} {s_x_secondSlot_grants_cells : Ar} {s_x_secondSlot_routes : Int32 × Int32 × Int32} {s_x_secondSlot_routes_cells : Ar} {s_x_acts : Int32 × Int32 × Int32} {s_x_acts_cells : Ar} {s_x_seen : Int32 × Int32 × Int32} {s_x_seen_cells : Ar} {s_x_text : Int32 × Int32 × Int32} {s_x_text_letters : Nat → Int32} {s_x_text_papers : Int32 × Int32 × Int32} {s_x_text_papers_cells : Ar} {s_x_text_grants : Int32 × Int32 × Int32} {s_x_text_grants_cells : Ar} {s_x_text_routes : Int32 × Int32 × Int32} {s_x_text_routes_cells : Ar} {s_x_doings : Nat → Int32} {s_m : Int32 × Int32 × Int32 × Int32 × Int32 × Int32 × Int32 × Int32 × Int32 × Int64} {s_m_text : Nat → Int32} {s_m_paper : Nat → Int32} {s_m_now : Nat → Int32} {s_m_trial : Nat → Int32} {s_m_diary : Nat → Int32} {s_m_kept : Nat → Int32} {s_m_isKept : Nat → Int32} {s_m_seenAt : Nat → Int32} {s_m_worth : Nat → Int32} {s_m_readPaper : Nat → Int32} {s_m_read : Nat → Int32}
set_option maxHeartbeats 1000000 in
theorem L_fault (h : Rel s_x s_x_papers s_x_papers_cells s_x_now s_x_now_grants s_x_now_grants_cells s_x_now_routes s_x_now_routes_cells s_x_trial s_x_trial_grants s_x_trial_grants_cells s_x_trial_routes s_x_trial_routes_cells s_x_firstSlot s_x_firstSlot_grants s_x_firstSlot_grants_cells s_x_firstSlot_routes s_x_firstSlot_routes_cells s_x_secondSlot s_x_secondSlot_grants s_x_secondSlot_grants_cells s_x_secondSlot_routes s_x_secondSlot_routes_cells s_x_acts s_x_acts_cells s_x_seen s_x_seen_cells s_x_text s_x_text_letters s_x_text_papers s_x_text_papers_cells s_x_text_grants s_x_text_grants_cells s_x_text_routes s_x_text_routes_cells s_x_doings s_m s_m_text s_m_paper s_m_now s_m_trial s_m_diary s_m_kept s_m_isKept s_m_seenAt s_m_worth s_m_readPaper s_m_read)  : ∃ (rx : Int32 × (Int32 × Int32 × Int32) × (Int32 × Int32 × Int32) × Ar × (Int32 × Int32 × Int32) × (Int32 × Int32 × Int32) × Ar × Ar) (rm : Int32 × (Int32 × Int32 × Int32 × Int32 × Int32 × Int32 × Int32 × Int32 × Int32 × Int64) × (Nat → Int32) × (Nat → Int32)), mX3_fault s_x_text s_x_text_papers s_x_text_papers_cells s_x_text_grants s_x_text_routes s_x_text_letters s_x_text_routes_cells s_x_text_grants_cells = some rx ∧ mX4_fault s_m s_m_text s_m_read s_m_readPaper = some rm ∧ rx.1 = rm.1 ∧ Rel s_x s_x_papers s_x_papers_cells s_x_now s_x_now_grants s_x_now_grants_cells s_x_now_routes s_x_now_routes_cells s_x_trial s_x_trial_grants s_x_trial_grants_cells s_x_trial_routes s_x_trial_routes_cells s_x_firstSlot s_x_firstSlot_grants s_x_firstSlot_grants_cells s_x_firstSlot_routes s_x_firstSlot_routes_cells s_x_secondSlot s_x_secondSlot_grants s_x_secondSlot_grants_cells s_x_secondSlot_routes s_x_secondSlot_routes_cells s_x_acts s_x_acts_cells s_x_seen s_x_seen_cells rx.2.1 s_x_text_letters rx.2.2.1 rx.2.2.2.1 rx.2.2.2.2.1 rx.2.2.2.2.2.2.2 rx.2.2.2.2.2.1 rx.2.2.2.2.2.2.1 s_x_doings rm.2.1 s_m_text s_m_paper s_m_now s_m_trial s_m_diary s_m_kept s_m_isKept s_m_seenAt s_m_worth rm.2.2.2 rm.2.2.1 := by
  obtain ⟨P, bk, hs, k0, k1, sn, t, len, nx, hW, hC, hR⟩ := id h
  obtain ⟨wP, wB, wh1, wh2, wk0, wk1, ws1, ws2, wl1, wl2, wn⟩ := id hW
  obtain ⟨bG1, bR1, bG, bR, bD⟩ := id wB
  obtain ⟨cP, cN, cT, cK0, cK1, cA, cS, cX, cW, cM⟩ := id hC
  obtain ⟨cb, cg, cr⟩ := id cN
  obtain ⟨rM, rX, rP, rN, rD, rK, rS⟩ := id hR
  obtain ⟨m1, m2, m3, m4, m5, m6⟩ := id rM
  obtain ⟨n1, n2, z0, zg, z41, zr, z63, z64, z65⟩ := id rN
  have hday : bk.2.2.2.2 < 2 ^ 31 := by omega
  obtain ⟨x1, x2, x3⟩ := s_x_text
  obtain ⟨rfl, cX2⟩ := id cX
  have hQ : ∃ q : Nat → Nat, ∀ j, j < len → q j < 256 ∧ t j = nI (q j) := by
    refine ⟨fun j => (t j).toBitVec.toNat, fun j hj => ?_⟩
    obtain ⟨k, k1, k2⟩ := wl2 j hj
    have hk : (t j).toBitVec.toNat = k := by rw [k2, pk_tn (by omega)]
    exact ⟨by dsimp only; rw [hk]; exact k1, by dsimp only; rw [hk]; exact k2⟩
  obtain ⟨q, hq⟩ := hQ
  obtain ⟨ans, c, po', pa', go', ga', ro', ra', at', np', st', ln', rr', rp', e1, e2, e3, e4⟩ := readAll_l wl1 (L := s_x_text_letters) (T := s_m_text) (q := q) (fun j hj => (cX2 j hj).trans (hq j hj).2) (fun j hj => (rX j hj).trans (hq j hj).2) (fun j hj => (hq j hj).1) s_m m1 cW.1 cW.2.1 cW.2.2 x2 x3 s_m_read s_m_readPaper
  refine ⟨(ans, (nI len, c), po', pa', go', ro', ra', ga'), (ans, mkT s_m at' np' st' ln', rr', rp'), ?_, ?_, rfl, P, bk, hs, k0, k1, sn, t, len, nx, hW, ⟨cP, cN, cT, cK0, cK1, cA, cS, ⟨rfl, cX2⟩, e3, cM⟩, ⟨m1, m2, m3, m4, m5, m6⟩, rX, rP, rN, rD, rK, rS⟩
  · unfold mX3_fault
    rw [e1, Option.bind_some]
  · unfold mX4_fault
    rw [e2, Option.bind_some]
set_option maxHeartbeats 1000000 in
theorem L_tree (h : Rel s_x s_x_papers s_x_papers_cells s_x_now s_x_now_grants s_x_now_grants_cells s_x_now_routes s_x_now_routes_cells s_x_trial s_x_trial_grants s_x_trial_grants_cells s_x_trial_routes s_x_trial_routes_cells s_x_firstSlot s_x_firstSlot_grants s_x_firstSlot_grants_cells s_x_firstSlot_routes s_x_firstSlot_routes_cells s_x_secondSlot s_x_secondSlot_grants s_x_secondSlot_grants_cells s_x_secondSlot_routes s_x_secondSlot_routes_cells s_x_acts s_x_acts_cells s_x_seen s_x_seen_cells s_x_text s_x_text_letters s_x_text_papers s_x_text_papers_cells s_x_text_grants s_x_text_grants_cells s_x_text_routes s_x_text_routes_cells s_x_doings s_m s_m_text s_m_paper s_m_now s_m_trial s_m_diary s_m_kept s_m_isKept s_m_seenAt s_m_worth s_m_readPaper s_m_read)  : ∃ (rx : Int32 × (Int32 × Int64) × (Int32 × Int32 × Int32) × (Int32 × Int32 × Int32) × Ar × (Int32 × Int32 × Int32) × (Int32 × Int32 × Int32) × Ar × Ar × (Int32 × Int32 × Int32) × Ar × (Int32 × Int32 × Int32) × (Int32 × Int32 × Int32) × Ar × (Int32 × Int32 × Int32) × Ar × (Int32 × Int32 × Int32)) (rm : Int32 × (Int32 × Int32 × Int32 × Int32 × Int32 × Int32 × Int32 × Int32 × Int32 × Int64) × (Nat → Int32) × (Nat → Int32) × (Nat → Int32) × (Nat → Int32) × (Nat → Int32)), mX3_tree s_x s_x_text s_x_text_papers s_x_text_papers_cells s_x_text_grants s_x_text_routes s_x_text_letters s_x_text_routes_cells s_x_text_grants_cells s_x_papers s_x_papers_cells s_x_now s_x_now_grants s_x_now_grants_cells s_x_now_routes s_x_now_routes_cells s_x_acts = some rx ∧ mX4_tree s_m s_m_text s_m_read s_m_readPaper s_m_now s_m_isKept s_m_paper = some rm ∧ rx.1 = rm.1 ∧ Rel rx.2.1 rx.2.2.2.2.2.2.2.2.2.1 rx.2.2.2.2.2.2.2.2.2.2.1 rx.2.2.2.2.2.2.2.2.2.2.2.1 rx.2.2.2.2.2.2.2.2.2.2.2.2.1 rx.2.2.2.2.2.2.2.2.2.2.2.2.2.1 rx.2.2.2.2.2.2.2.2.2.2.2.2.2.2.1 rx.2.2.2.2.2.2.2.2.2.2.2.2.2.2.2.1 s_x_trial s_x_trial_grants s_x_trial_grants_cells s_x_trial_routes s_x_trial_routes_cells s_x_firstSlot s_x_firstSlot_grants s_x_firstSlot_grants_cells s_x_firstSlot_routes s_x_firstSlot_routes_cells s_x_secondSlot s_x_secondSlot_grants s_x_secondSlot_grants_cells s_x_secondSlot_routes s_x_secondSlot_routes_cells rx.2.2.2.2.2.2.2.2.2.2.2.2.2.2.2.2 s_x_acts_cells s_x_seen s_x_seen_cells rx.2.2.1 s_x_text_letters rx.2.2.2.1 rx.2.2.2.2.1 rx.2.2.2.2.2.1 rx.2.2.2.2.2.2.2.2.1 rx.2.2.2.2.2.2.1 rx.2.2.2.2.2.2.2.1 s_x_doings rm.2.1 s_m_text rm.2.2.2.2.2.2 rm.2.2.2.2.1 s_m_trial s_m_diary s_m_kept rm.2.2.2.2.2.1 s_m_seenAt s_m_worth rm.2.2.2.1 rm.2.2.1 := by
  obtain ⟨P, bk, hs, k0, k1, sn, t, len, nx, hW, hC, hR⟩ := id h
  obtain ⟨wP, wB, wh1, wh2, wk0, wk1, ws1, ws2, wl1, wl2, wn⟩ := id hW
  obtain ⟨bG1, bR1, bG, bR, bD⟩ := id wB
  obtain ⟨cP, cN, cT, cK0, cK1, cA, cS, cX, cW, cM⟩ := id hC
  obtain ⟨cb, cg, cr⟩ := id cN
  obtain ⟨rM, rX, rP, rN, rD, rK, rS⟩ := id hR
  obtain ⟨m1, m2, m3, m4, m5, m6⟩ := id rM
  obtain ⟨n1, n2, z0, zg, z41, zr, z63, z64, z65⟩ := id rN
  have hday : bk.2.2.2.2 < 2 ^ 31 := by omega
  obtain ⟨x1, x2, x3⟩ := s_x_text
  obtain ⟨rfl, cX2⟩ := id cX
  have hQ : ∃ q : Nat → Nat, ∀ j, j < len → q j < 256 ∧ t j = nI (q j) := by
    refine ⟨fun j => (t j).toBitVec.toNat, fun j hj => ?_⟩
    obtain ⟨k, k1, k2⟩ := wl2 j hj
    have hk : (t j).toBitVec.toNat = k := by rw [k2, pk_tn (by omega)]
    exact ⟨by dsimp only; rw [hk]; exact k1, by dsimp only; rw [hk]; exact k2⟩
  obtain ⟨q, hq⟩ := hQ
  obtain ⟨ans, c, po', pa', go', ga', ro', ra', at', np', st', ln', rr', rp', e1, e2, e3, e4⟩ := readAll_l wl1 (L := s_x_text_letters) (T := s_m_text) (q := q) (fun j hj => (cX2 j hj).trans (hq j hj).2) (fun j hj => (rX j hj).trans (hq j hj).2) (fun j hj => (hq j hj).1) s_m m1 cW.1 cW.2.1 cW.2.2 x2 x3 s_m_read s_m_readPaper
  by_cases h9 : ans = -9
  · obtain ⟨P', G', R', ⟨kP, kG, kG2, kR, kR2⟩, ⟨pC, gC, rC⟩, ⟨rW, rPp⟩, hnp⟩ := e4 h9
    obtain ⟨o1, a1, ec1, rc1⟩ := copy_ok pC cP.sh pC.2.1
    obtain ⟨o2, a2, ec2, rc2⟩ := copy_ok gC cg.sh gC.2.1
    obtain ⟨o3, a3, ec3, rc3⟩ := copy_ok rC cr.sh (Nat.le_trans rC.2.1 (by decide))
    obtain ⟨g', w, z, et, w1, w2, w3, w4⟩ := tree_l (T := s_m_text) kP.2.1 (t := (s_m.1, np', s_m.2.2.1, s_m.2.2.2.1, s_m.2.2.2.2.1, at', np', st', ln', s_m.2.2.2.2.2.2.2.2.2)) hnp rr' rp' s_m_now s_m_isKept FU 4 s_m_paper (Nat.le_refl _) (by have := kP.1; omega) (by have := kP.2.1; rw [FU_eq]; omega)
    have hacs : ActsC (G', R', 0, 0, 0) [] (s_x_acts.1, s_x_acts.2.1, (0 : Int32)) s_x_acts_cells := by
      obtain ⟨cell, q1, _⟩ := cA
      exact ⟨cell, q1.sh.nil cell, fun j hj => absurd hj (Nat.not_lt_zero j)⟩
    refine ⟨(o1.2.2, ((0 : Int32), s_x.2), (nI len, c), po', pa', go', ro', ra', ga', o1, a1, ((0 : Int32), (0 : Int32), (0 : Int32)), o2, a2, o3, a3, (s_x_acts.1, s_x_acts.2.1, (0 : Int32))), (nI P'.length, (s_m.1, np', (0 : Int32), s_m.2.2.2.1, s_m.2.2.2.2.1, at', np', st', ln', s_m.2.2.2.2.2.2.2.2.2), rr', rp', w, z, g'), ?_, ?_, rc1.cnt, P', (G', R', 0, 0, 0), [], none, none, sn, t, len, nx, ⟨kP, ⟨kG, kR, kG2, kR2, Nat.zero_le _⟩, Nat.zero_le _, fun j hj => absurd hj (Nat.not_lt_zero j), fun b hb => (by cases hb), fun b hb => (by cases hb), ws1, ws2, wl1, wl2, wn⟩, ⟨rc1, ⟨rfl, rc2, rc3⟩, cT, ⟨cK0.1, fun b hb => (by cases hb)⟩, ⟨cK1.1, fun b hb => (by cases hb)⟩, hacs, cS, ⟨rfl, cX2⟩, e3, rfl⟩, ⟨m1, hnp, rfl, m4, m5, m6⟩, rX, ?_, RowR.cong rW w1, fun j hj => absurd hj (Nat.not_lt_zero j), ⟨w2, w3, fun b hb => (by cases hb), fun b hb => (by cases hb)⟩, rS⟩
    · unfold mX3_tree
      rw [e1, Option.bind_some, if_pos (show ans = -9 from h9), ec1, Option.bind_some]
      unfold mX0_begin
      dsimp only
      rw [ec2, Option.bind_some, ec3, Option.bind_some, Option.bind_some]
    · unfold mX4_tree
      rw [e2, Option.bind_some, if_pos (show ans = -9 from h9)]
      exact et
    · intro i hi
      dsimp only
      by_cases i0 : i = 0
      · subst i0
        obtain ⟨a1, a2, a3, a4⟩ := rP 0 (by have := wP.1; omega)
        have hp0 : pA P' 0 = pA P 0 := kP.2.2.1.trans wP.2.2.1.symm
        rw [hp0]
        exact ⟨by rw [w4, if_neg (by omega)]; exact a1, by rw [w4, if_neg (by omega)]; exact a2, by rw [w4, if_neg (by omega)]; exact a3, by rw [w4, if_neg (by omega)]; exact a4⟩
      · obtain ⟨a1, a2, a3, a4⟩ := rPp i (by omega) hi
        exact ⟨by rw [w4, if_pos (by omega)]; exact a1, by rw [w4, if_pos (by omega)]; exact a2, by rw [w4, if_pos (by omega)]; exact a3, by rw [w4, if_pos (by omega)]; exact a4⟩
  · refine ⟨(-3, s_x, (nI len, c), po', pa', go', ro', ra', ga', s_x_papers, s_x_papers_cells, s_x_now, s_x_now_grants, s_x_now_grants_cells, s_x_now_routes, s_x_now_routes_cells, s_x_acts), (-3, mkT s_m at' np' st' ln', rr', rp', s_m_now, s_m_isKept, s_m_paper), ?_, ?_, rfl, P, bk, hs, k0, k1, sn, t, len, nx, hW, ⟨cP, cN, cT, cK0, cK1, cA, cS, ⟨rfl, cX2⟩, e3, cM⟩, ⟨m1, m2, m3, m4, m5, m6⟩, rX, rP, rN, rD, rK, rS⟩
    · unfold mX3_tree
      rw [e1, Option.bind_some, if_neg (show ¬ ans = -9 from h9)]
    · unfold mX4_tree
      rw [e2, Option.bind_some, if_neg (show ¬ ans = -9 from h9)]
end L2
