theorem gok_app {np : Nat} {G : List GN} (hG : ∀ k, k < G.length → gOk np (gA G k)) {x : GN} (hx : gOk np x) : ∀ k, k < (G ++ [x]).length → gOk np (gA (G ++ [x]) k) := by
  intro k hk
  rw [List.length_append] at hk
  have hk' : k < G.length + 1 := hk
  unfold gA
  by_cases z : k = G.length
  · subst z; rw [gd_eq]; exact hx
  · rw [gd_lt _ _ _ (by omega)]; exact hG k (by omega)
/-! an act taken back -/
theorem xor_back (x y : Int32) : (x ^^^ y) ^^^ y = x := by
  refine b_ext (fun i _ => ?_)
  rw [b_xor, b_xor]
  cases bt x i <;> cases bt y i <;> rfl
theorem er_app {α : Type} (l : List α) (x : α) : (l ++ [x]).eraseIdx l.length = l := by
  rw [List.eraseIdx_append_of_length_le (Nat.le_refl _), Nat.sub_self]
  simp
theorem putBack_l {lim w N n : Nat} {o : I3} {aa : Ar} {ac : Nat → Nat → Int32} {ao : I3} (hac : RowsIs 14 8 n ac ao aa) {i0 : Nat} (hi0 : i0 < n) (hw : w ≤ 6) {k : Nat} (hk : k < N) {cell : Nat → Nat → Int32} : ∀ (m i : Nat) (a : Ar) (c1 : Nat → Nat → Int32), i ≤ w → w - i < m → RowsIs lim w N c1 o a → (∀ j c, c1 j c = if j = k ∧ c < i then ac i0 (2 + c) else cell j c) → ∃ a' c2, mX3_putBack_b8 o ao aa (nI i0) (nI k) m (nI i) a = some (o, a') ∧ RowsIs lim w N c2 o a' ∧ ∀ j c, c2 j c = if j = k ∧ c < w then ac i0 (2 + c) else cell j c := by
  intro m
  induction m with
  | zero => intro i a c1 h1 h2; omega
  | succ m ih =>
    intro i a c1 h1 h2 h3 h4
    rw [mX3_putBack_b8, show o.2.1 = nI w by rw [h3.1]]
    by_cases hi : i < w
    · obtain ⟨a2, e2, r2⟩ := put_ok h3 (i := k) (c := i) hk hi (ac i0 (2 + i))
      rw [if_neg (nI_ge hi (by omega)), L2, nI_add, at_ok hac hi0 (by omega), Option.bind_some, e2, Option.bind_some, nI_1]
      refine ih (i + 1) a2 _ hi (by omega) r2 (fun j c => ?_)
      by_cases z : j = k ∧ c = i
      · rw [if_pos z, if_pos (by omega), z.2]
      · rw [if_neg z, h4]
        by_cases z2 : j = k ∧ c < i
        · rw [if_pos z2, if_pos (by omega)]
        · rw [if_neg z2, if_neg (by omega)]
    · have : i = w := by omega
      subst this
      rw [if_pos (nI_le (Nat.le_refl _) (by omega))]
      exact ⟨a, c1, rfl, h3, h4⟩
theorem putBack_ok {lim w N n : Nat} {o : I3} {a : Ar} {cell : Nat → Nat → Int32} (h : RowsIs lim w N cell o a) (hN : N < lim) (hw : w ≤ 6) {aa : Ar} {ac : Nat → Nat → Int32} {ao : I3} (hac : RowsIs 14 8 n ac ao aa) {i0 : Nat} (hi0 : i0 < n) {k : Nat} (hk : k ≤ N) : ∃ o' a' c2, mX3_putBack o a ao aa (nI i0) (nI k) = some (o', a') ∧ RowsIs lim w (N + 1) c2 o' a' ∧ (∀ j, j < k → ∀ c, c < w → c2 j c = cell j c) ∧ (∀ c, c < w → c2 k c = ac i0 (2 + c)) ∧ ∀ j, k < j → j < N + 1 → ∀ c, c < w → c2 j c = cell (j - 1) c := by
  obtain ⟨o1, a1, c1, e1, r1, k1, k2⟩ := open_ok h hk hN
  obtain ⟨a2, c2, e2, r2, h2⟩ := putBack_l (k := k) hac hi0 hw (by omega) (cell := c1) FU 0 a1 c1 (Nat.zero_le _) (by rw [FU_eq]; omega) r1 (fun j c => by rw [if_neg (by omega)])
  refine ⟨o1, a2, c2, ?_, r2, fun j hj c hc => ?_, fun c hc => ?_, fun j hj hj2 c hc => ?_⟩
  · unfold mX3_putBack
    rw [e1, Option.bind_some]
    exact e2
  · rw [h2, if_neg (by omega), k1 j hj c hc]
  · rw [h2, if_pos ⟨rfl, hc⟩]
  · rw [h2, if_neg (by omega), k2 j hj hj2 c hc]
theorem takeBack_ok {np : Nat} {bk bef : Bk} {n : Nat} {ao : I3} {aa : Ar} {ac : Nat → Nat → Int32} (hac : RowsIs 14 8 n ac ao aa) {i0 : Nat} (hi0 : i0 < n) (hA0 : ActIs (ac i0) bk bef) (hbef : bkOk np bef) {bo go : I3} {ga : Ar} {ro : I3} {ra : Ar} (cN : BooksIs bk bo go ga ro ra) : ∃ y, mX3_takeBack ao aa bo ro ra go ga (nI i0) = some y ∧ BooksIs bef y.1 y.2.2.2.1 y.2.2.2.2 y.2.1 y.2.2.1 := by
  obtain ⟨cb, cg, cr⟩ := cN
  obtain ⟨bG1, bR1, bG, bR, bD⟩ := hbef
  have a0 : mX1_at ao aa (nI i0) (0 : Int32) = some (ac i0 0) := at_ok hac hi0 (c := 0) (by decide)
  have a1 : mX1_at ao aa (nI i0) (1 : Int32) = some (ac i0 1) := at_ok hac hi0 (c := 1) (by decide)
  unfold mX3_takeBack
  rw [a1, Option.bind_some, a0, Option.bind_some]
  rcases hA0 with ⟨h1, h2, x, h3⟩ | ⟨h1, k, h2, h3, h4, h5⟩ | ⟨h1, h2, x, h3⟩ | ⟨h1, k, h2, h3, h4, h5⟩ | ⟨h1, k, h2, h3, h4⟩ | ⟨h1, h2⟩ | ⟨h1, k, h2, h3, h4⟩
  · subst h3
    have hlt : bef.2.1.length < (bef.2.1 ++ [x]).length := by rw [List.length_append]; exact Nat.lt_succ_self _
    obtain ⟨o', a', e, r⟩ := RtC.close cr hlt
    rw [h1, h2, if_pos rfl, e, Option.bind_some]
    refine ⟨_, rfl, cb, cg, ?_⟩
    have r2 : RtC ((bef.2.1 ++ [x]).eraseIdx bef.2.1.length) o' a' := r
    rw [er_app] at r2
    exact r2
  · subst h5
    have hl := er_len h2
    have cr' : RtC (bef.2.1.eraseIdx k) ro ra := cr
    obtain ⟨o', a', c2, e, r, q1, q2, q3⟩ := putBack_ok (k := k) cr' (by rw [hl]; omega) (by decide) hac hi0 (by rw [hl]; omega)
    rw [h1, h3, if_neg (by decide), if_pos rfl, e, Option.bind_some]
    refine ⟨_, rfl, cb, cg, ?_⟩
    rw [hl] at r q3
    have e1 : bef.2.1.length - 1 + 1 = bef.2.1.length := by omega
    rw [e1] at r q3
    refine r.cong (fun j hj c hc => ?_)
    rcases Nat.lt_trichotomy j k with z | z | z
    · rw [q1 j z c hc]
      unfold rA
      rw [gd_er, if_pos z]
    · subst z
      rw [q2 c hc, h4 c hc]
    · rw [q3 j z hj c hc]
      unfold rA
      rw [gd_er, if_neg (by omega), show j - 1 + 1 = j by omega]
  · subst h3
    have hlt : bef.1.length < (bef.1 ++ [x]).length := by rw [List.length_append]; exact Nat.lt_succ_self _
    obtain ⟨o', a', e, r⟩ := GrC.close cg hlt
    rw [h1, h2, if_neg (by decide), if_neg (by decide), if_pos rfl, e, Option.bind_some]
    refine ⟨_, rfl, cb, ?_, cr⟩
    have r2 : GrC ((bef.1 ++ [x]).eraseIdx bef.1.length) o' a' := r
    rw [er_app] at r2
    exact r2
  · subst h5
    have hl := er_len h2
    have cg' : GrC (bef.1.eraseIdx k) go ga := cg
    obtain ⟨o', a', c2, e, r, q1, q2, q3⟩ := putBack_ok (k := k) cg' (by rw [hl]; omega) (by decide) hac hi0 (by rw [hl]; omega)
    rw [h1, h3, if_neg (by decide), if_neg (by decide), if_neg (by decide), if_pos rfl, e, Option.bind_some]
    refine ⟨_, rfl, cb, ?_, cr⟩
    rw [hl] at r q3
    have e1 : bef.1.length - 1 + 1 = bef.1.length := by omega
    rw [e1] at r q3
    refine r.cong (fun j hj c hc => ?_)
    rcases Nat.lt_trichotomy j k with z | z | z
    · rw [q1 j z c hc]
      unfold gA
      rw [gd_er, if_pos z]
    · subst z
      rw [q2 c hc, h4 c hc]
    · rw [q3 j z hj c hc]
      unfold gA
      rw [gd_er, if_neg (by omega), show j - 1 + 1 = j by omega]
  · subst h4
    rw [h1, h3, if_neg (by decide), if_neg (by decide), if_neg (by decide), if_neg (by decide), if_pos rfl]
    refine ⟨_, rfl, ?_, cg, cr⟩
    rw [cb]
    dsimp only
    rw [xor_back]
  · subst h2
    rw [h1, if_neg (by decide), if_neg (by decide), if_neg (by decide), if_neg (by decide), if_neg (by decide), if_pos rfl]
    refine ⟨_, rfl, ?_, cg, cr⟩
    rw [cb]
    dsimp only
    rw [nI_pred]
  · subst h4
    rw [h1, h3, if_neg (by decide), if_neg (by decide), if_neg (by decide), if_neg (by decide), if_neg (by decide), if_neg (by decide), if_pos rfl, bnd_eq]
    refine ⟨_, rfl, ?_, cg, cr⟩
    rw [cb]
    dsimp only
    rw [xor_back]
theorem undo_l {d : Nat → Int32} {t : MO} {q : Nat} (h4 : t.2.2.2.1 = nI q) (hq : q < 14) : ∀ (m i : Nat) (g : Nat → Int32), i ≤ 66 → 66 - i < m → (∀ j, j < i → g j = d (66 * q + j)) → ∃ g', mX4_undo_b38 t d m (nI i) g = some (t.2.2.1, t, g') ∧ ∀ j, j < 66 → g' j = d (66 * q + j) := by
  intro m
  induction m with
  | zero => intro i g h1 h2; omega
  | succ m ih =>
    intro i g h1 h2 h3
    rw [mX4_undo_b38, h4]
    by_cases hi : i < 66
    · rw [if_neg (show ¬ (66 : Int32) ≤ nI i by rw [L66]; exact nI_ge hi (by decide)), L66, pk_mul, nI_add, rd_ok rfl (by omega) (by decide), wr_ok rfl hi (by decide), nI_1]
      refine ih (i + 1) _ hi (by omega) (fun j hj => ?_)
      by_cases z : j = i
      · subst z; rw [pk_us]
      · rw [pk_un z, h3 j (by omega)]
    · have : i = 66 := by omega
      subst this
      rw [if_pos (by decide)]
      exact ⟨g, rfl, h3⟩
section L2
variable {s_x : Int32 × Int64} {s_x_papers : Int32 × Int32 × Int32} {s_x_papers_cells : Ar} {s_x_now : Int32 × Int32 × Int32} {s_x_now_grants : Int32 × Int32 × Int32} {s_x_now_grants_cells : Ar} {s_x_now_routes : Int32 × Int32 × Int32} {s_x_now_routes_cells : Ar} {s_x_trial : Int32 × Int32 × Int32} {s_x_trial_grants : Int32 × Int32 × Int32} {s_x_trial_grants_cells : Ar} {s_x_trial_routes : Int32 × Int32 × Int32} {s_x_trial_routes_cells : Ar} {s_x_firstSlot : Int32 × Int32 × Int32} {s_x_firstSlot_grants : Int32 × Int32 × Int32} {s_x_firstSlot_grants_cells : Ar} {s_x_firstSlot_routes : Int32 × Int32 × Int32} {s_x_firstSlot_routes_cells : Ar} {s_x_secondSlot : Int32 × Int32 × Int32} {s_x_secondSlot_grants : Int32 × Int32 × Int32} {s_x_secondSlot_grants_cells : Ar} {s_x_secondSlot_routes : Int32 × Int32 × Int32} {s_x_secondSlot_routes_cells : Ar} {s_x_acts : Int32 × Int32 × Int32} {s_x_acts_cells : Ar} {s_x_seen : Int32 × Int32 × Int32} {s_x_seen_cells : Ar} {s_x_text : Int32 × Int32 × Int32} {s_x_text_letters : Nat → Int32} {s_x_text_papers : Int32 × Int32 × Int32} {s_x_text_papers_cells : Ar} {s_x_text_grants : Int32 × Int32 × Int32} {s_x_text_grants_cells : Ar} {s_x_text_routes : Int32 × Int32 × Int32} {s_x_text_routes_cells : Ar} {s_x_doings : Nat → Int32} {s_m : Int32 × Int32 × Int32 × Int32 × Int32 × Int32 × Int32 × Int32 × Int32 × Int64} {s_m_text : Nat → Int32} {s_m_paper : Nat → Int32} {s_m_now : Nat → Int32} {s_m_trial : Nat → Int32} {s_m_diary : Nat → Int32} {s_m_kept : Nat → Int32} {s_m_isKept : Nat → Int32} {s_m_seenAt : Nat → Int32} {s_m_worth : Nat → Int32} {s_m_readPaper : Nat → Int32} {s_m_read : Nat → Int32}
set_option maxHeartbeats 1000000 in
theorem L_allow (h : Rel s_x s_x_papers s_x_papers_cells s_x_now s_x_now_grants s_x_now_grants_cells s_x_now_routes s_x_now_routes_cells s_x_trial s_x_trial_grants s_x_trial_grants_cells s_x_trial_routes s_x_trial_routes_cells s_x_firstSlot s_x_firstSlot_grants s_x_firstSlot_grants_cells s_x_firstSlot_routes s_x_firstSlot_routes_cells s_x_secondSlot s_x_secondSlot_grants s_x_secondSlot_grants_cells s_x_secondSlot_routes s_x_secondSlot_routes_cells s_x_acts s_x_acts_cells s_x_seen s_x_seen_cells s_x_text s_x_text_letters s_x_text_papers s_x_text_papers_cells s_x_text_grants s_x_text_grants_cells s_x_text_routes s_x_text_routes_cells s_x_doings s_m s_m_text s_m_paper s_m_now s_m_trial s_m_diary s_m_kept s_m_isKept s_m_seenAt s_m_worth s_m_readPaper s_m_read) (v1 : Int32) (v2 : Int32) (v3 : Int32) (v4 : Int32) (v5 : Int32) : ∃ (rx : Int32 × (Int32 × Int32 × Int32) × Ar × (Int32 × Int32 × Int32) × Ar) (rm : Int32 × (Int32 × Int32 × Int32 × Int32 × Int32 × Int32 × Int32 × Int32 × Int32 × Int64) × (Nat → Int32) × (Nat → Int32)), mX3_allow s_x_papers s_x_now_grants s_x_now_grants_cells s_x_acts s_x_acts_cells v1 v2 v3 v4 v5 = some rx ∧ mX4_allow s_m s_m_now s_m_diary v1 v2 v3 v4 v5 = some rm ∧ rx.1 = rm.1 ∧ Rel s_x s_x_papers s_x_papers_cells s_x_now rx.2.1 rx.2.2.1 s_x_now_routes s_x_now_routes_cells s_x_trial s_x_trial_grants s_x_trial_grants_cells s_x_trial_routes s_x_trial_routes_cells s_x_firstSlot s_x_firstSlot_grants s_x_firstSlot_grants_cells s_x_firstSlot_routes s_x_firstSlot_routes_cells s_x_secondSlot s_x_secondSlot_grants s_x_secondSlot_grants_cells s_x_secondSlot_routes s_x_secondSlot_routes_cells rx.2.2.2.1 rx.2.2.2.2 s_x_seen s_x_seen_cells s_x_text s_x_text_letters s_x_text_papers s_x_text_papers_cells s_x_text_grants s_x_text_grants_cells s_x_text_routes s_x_text_routes_cells s_x_doings rm.2.1 s_m_text s_m_paper rm.2.2.1 s_m_trial rm.2.2.2 s_m_kept s_m_isKept s_m_seenAt s_m_worth s_m_readPaper s_m_read := by
  obtain ⟨P, bk, hs, k0, k1, sn, t, len, nx, hW, hC, hR⟩ := id h
  obtain ⟨wP, wB, wh1, wh2, wk0, wk1, ws1, ws2, wl1, wl2, wn⟩ := id hW
  obtain ⟨bG1, bR1, bG, bR, bD⟩ := id wB
  obtain ⟨cP, cN, cT, cK0, cK1, cA, cS, cX, cW, cM⟩ := id hC
  obtain ⟨cb, cg, cr⟩ := id cN
  obtain ⟨rM, rX, rP, rN, rD, rK, rS⟩ := id hR
  obtain ⟨m1, m2, m3, m4, m5, m6⟩ := id rM
  obtain ⟨n1, n2, z0, zg, z41, zr, z63, z64, z65⟩ := id rN
  have hday : bk.2.2.2.2 < 2 ^ 31 := by omega
  have key : ∀ of : Nat, (of < P.length ∨ of = 9) → v1 = nI of → ∃ (rx : Int32 × (Int32 × Int32 × Int32) × Ar × (Int32 × Int32 × Int32) × Ar) (rm : Int32 × (Int32 × Int32 × Int32 × Int32 × Int32 × Int32 × Int32 × Int32 × Int32 × Int64) × (Nat → Int32) × (Nat → Int32)), mX3_allow_b17 s_x_papers s_x_now_grants s_x_now_grants_cells s_x_acts s_x_acts_cells v1 v2 v3 v4 v5 = some rx ∧ mX4_allow_b14 s_m s_m_now s_m_diary v1 v2 v3 v4 v5 = some rm ∧ rx.1 = rm.1 ∧ Rel s_x s_x_papers s_x_papers_cells s_x_now rx.2.1 rx.2.2.1 s_x_now_routes s_x_now_routes_cells s_x_trial s_x_trial_grants s_x_trial_grants_cells s_x_trial_routes s_x_trial_routes_cells s_x_firstSlot s_x_firstSlot_grants s_x_firstSlot_grants_cells s_x_firstSlot_routes s_x_firstSlot_routes_cells s_x_secondSlot s_x_secondSlot_grants s_x_secondSlot_grants_cells s_x_secondSlot_routes s_x_secondSlot_routes_cells rx.2.2.2.1 rx.2.2.2.2 s_x_seen s_x_seen_cells s_x_text s_x_text_letters s_x_text_papers s_x_text_papers_cells s_x_text_grants s_x_text_grants_cells s_x_text_routes s_x_text_routes_cells s_x_doings rm.2.1 s_m_text s_m_paper rm.2.2.1 s_m_trial rm.2.2.2 s_m_kept s_m_isKept s_m_seenAt s_m_worth s_m_readPaper s_m_read := by
    intro of hof ev
    subst ev
    have hP6 := wP.2.1
    rcases org_any v2 with ⟨o, ho, rfl, f1, f2⟩ | ⟨f1, f2⟩
    · rcases rng_any v3 v4 with ⟨s, l, hv, rfl, rfl, e1, e2⟩ | ⟨e1, e2⟩
      · have hl := hv.1
        have hin : mX4_in v5.toInt64 (nI l).toInt64 (5 : Int64) = some (decide (nI l ≤ v5 ∧ v5 ≤ 5)) := in_i v5 (nI l) 5
        by_cases c5 : nI l ≤ v5 ∧ v5 ≤ 5
        · have n0 : ¬ v5 < 0 := fun z => nI_pos (n := l) (by omega) (Int32.lt_of_le_of_lt c5.1 z)
          obtain ⟨q, hq, rfl⟩ := nI_of n0
          have hql : l ≤ q := (nI_leI (by omega) hq).mp c5.1
          have hq5 : q ≤ 5 := (nI_leI hq (show 5 < 2 ^ 31 by decide)).mp c5.2
          by_cases hn : bk.1.length < 8
          · obtain ⟨o1, a1, ea, ra⟩ := cg.add hn (of, o, s, l, q) (show l < 2 ^ 31 by omega)
            obtain ⟨o2, a2, cell', er, rr, q0, q1, q2⟩ := rem_ok cA wh1 3 (nI bk.1.length)
            obtain ⟨g', en, hD⟩ := note_ok m3 m4 wh1 wn rD rN
            obtain ⟨f', ef, hf⟩ := addGrant_r rN hn (of, o, s, l, q)
            refine ⟨(nI bk.1.length, o1, a1, o2, a2), (nI bk.1.length, (s_m.1, s_m.2.1, nI (hcut hs ++ [bk]).length, nI ((nx + 1) % 14), s_m.2.2.2.2.1, s_m.2.2.2.2.2.1, s_m.2.2.2.2.2.2.1, s_m.2.2.2.2.2.2.2.1, s_m.2.2.2.2.2.2.2.2.1, s_m.2.2.2.2.2.2.2.2.2), f', g'), ?_, ?_, rfl, P, (bk.1 ++ [(of, o, s, l, q)], bk.2), hcut hs ++ [bk], k0, k1, sn, t, len, (nx + 1) % 14, wf_push hW ⟨by rw [List.length_append]; exact hn, bR1, gok_app bG ⟨hof, ho, hv, hql, hq5⟩, bR, bD⟩, ⟨cP, ⟨cb, ra, cr⟩, cT, cK0, cK1, q2 _ _ _ _ rr (fun _ _ _ _ => rfl) (Or.inr (Or.inr (Or.inl ⟨q0, q1, _, rfl⟩))), cS, cX, cW, cM⟩, ⟨m1, m2, rfl, rfl, m5, m6⟩, rX, rP, hf, hD, rK, rS⟩
            · unfold mX3_allow_b17
              rw [f1, Option.bind_some, if_pos rfl, e1, Option.bind_some, if_pos rfl, if_neg (fun z => Int32.not_lt.mpr c5.1 z), if_pos c5.2, cg.cnt, L8, if_pos (nI_lt hn (by decide)), show mX1_addRange s_x_now_grants s_x_now_grants_cells (nI s) (nI l) (nI o) (nI of) (nI q) = some (nI bk.1.length, o1, a1) from ea, Option.bind_some]
              dsimp only
              rw [er, Option.bind_some]
            · unfold mX4_allow_b14
              rw [f2, Option.bind_some, if_pos rfl, e2, Option.bind_some, if_pos rfl, hin, decide_eq_true c5, Option.bind_some, if_pos rfl, L0, rd_ok rfl (by decide) (by decide), z0, if_neg (show ¬ nI bk.1.length = (8 : Int32) from fun z => by rw [L8, nI_eq (by omega) (by decide)] at z; omega), en, Option.bind_some, show mX4_addGrant s_m_now (nI of) (nI o) (nI s) (nI l) (nI q) = some f' from ef, Option.bind_some, rd_ok rfl (by decide) (by decide), hf.2.2.1, List.length_append, show bk.1.length + [(of, o, s, l, q)].length = bk.1.length + 1 from rfl, nI_pred]
          · have h8 : bk.1.length = 8 := by omega
            refine ⟨(-4, s_x_now_grants, s_x_now_grants_cells, s_x_acts, s_x_acts_cells), (-4, s_m, s_m_now, s_m_diary), ?_, ?_, rfl, h⟩
            · unfold mX3_allow_b17
              rw [f1, Option.bind_some, if_pos rfl, e1, Option.bind_some, if_pos rfl, if_neg (fun z => Int32.not_lt.mpr c5.1 z), if_pos c5.2, cg.cnt, h8, if_neg (by decide)]
            · unfold mX4_allow_b14
              rw [f2, Option.bind_some, if_pos rfl, e2, Option.bind_some, if_pos rfl, hin, decide_eq_true c5, Option.bind_some, if_pos rfl, L0, rd_ok rfl (by decide) (by decide), z0, h8, if_pos (by decide)]
        · refine ⟨(-2, s_x_now_grants, s_x_now_grants_cells, s_x_acts, s_x_acts_cells), (-2, s_m, s_m_now, s_m_diary), ?_, ?_, rfl, h⟩
          · unfold mX3_allow_b17
            rw [f1, Option.bind_some, if_pos rfl, e1, Option.bind_some, if_pos rfl]
            by_cases z : v5 < nI l
            · rw [if_pos z]
            · rw [if_neg z, if_neg (fun y => c5 ⟨Int32.not_lt.mp z, y⟩)]
          · unfold mX4_allow_b14
            rw [f2, Option.bind_some, if_pos rfl, e2, Option.bind_some, if_pos rfl, hin, decide_eq_false c5]
            rfl
      · refine ⟨(-2, s_x_now_grants, s_x_now_grants_cells, s_x_acts, s_x_acts_cells), (-2, s_m, s_m_now, s_m_diary), by unfold mX3_allow_b17; rw [f1, Option.bind_some, if_pos rfl, e1]; rfl, by unfold mX4_allow_b14; rw [f2, Option.bind_some, if_pos rfl, e2]; rfl, rfl, h⟩
    · refine ⟨(-1, s_x_now_grants, s_x_now_grants_cells, s_x_acts, s_x_acts_cells), (-1, s_m, s_m_now, s_m_diary), by unfold mX3_allow_b17; rw [f1]; rfl, by unfold mX4_allow_b14; rw [f2]; rfl, rfl, h⟩
  have e4 := isPaper_r m2 v1
  rcases idx_both cP v1 with ⟨i, hi, ei, e1, e2⟩ | ⟨hne, e1, e2⟩
  · obtain ⟨rx, rm, q1, q2, q3⟩ := key i (Or.inl hi) ei
    refine ⟨rx, rm, ?_, ?_, q3⟩
    · unfold mX3_allow
      rw [e1, Option.bind_some, if_pos rfl]
      exact q1
    · unfold mX4_allow
      rw [e4, e2, Option.bind_some, if_pos rfl]
      exact q2
  · by_cases c9 : v1 = 9
    · obtain ⟨rx, rm, q1, q2, q3⟩ := key 9 (Or.inr rfl) c9
      refine ⟨rx, rm, ?_, ?_, q3⟩
      · unfold mX3_allow
        rw [e1, Option.bind_some, if_neg (by decide), if_pos c9]
        exact q1
      · unfold mX4_allow
        rw [e4, e2, Option.bind_some, if_neg (by decide), if_pos c9]
        exact q2
    · refine ⟨(-1, s_x_now_grants, s_x_now_grants_cells, s_x_acts, s_x_acts_cells), (-1, s_m, s_m_now, s_m_diary), by unfold mX3_allow; rw [e1, Option.bind_some, if_neg (by decide), if_neg c9], by unfold mX4_allow; rw [e4, e2, Option.bind_some, if_neg (by decide), if_neg c9], rfl, h⟩
set_option maxHeartbeats 1000000 in
theorem L_undo (h : Rel s_x s_x_papers s_x_papers_cells s_x_now s_x_now_grants s_x_now_grants_cells s_x_now_routes s_x_now_routes_cells s_x_trial s_x_trial_grants s_x_trial_grants_cells s_x_trial_routes s_x_trial_routes_cells s_x_firstSlot s_x_firstSlot_grants s_x_firstSlot_grants_cells s_x_firstSlot_routes s_x_firstSlot_routes_cells s_x_secondSlot s_x_secondSlot_grants s_x_secondSlot_grants_cells s_x_secondSlot_routes s_x_secondSlot_routes_cells s_x_acts s_x_acts_cells s_x_seen s_x_seen_cells s_x_text s_x_text_letters s_x_text_papers s_x_text_papers_cells s_x_text_grants s_x_text_grants_cells s_x_text_routes s_x_text_routes_cells s_x_doings s_m s_m_text s_m_paper s_m_now s_m_trial s_m_diary s_m_kept s_m_isKept s_m_seenAt s_m_worth s_m_readPaper s_m_read)  : ∃ (rx : Int32 × (Int32 × Int32 × Int32) × Ar × (Int32 × Int32 × Int32) × (Int32 × Int32 × Int32) × Ar × (Int32 × Int32 × Int32) × Ar) (rm : Int32 × (Int32 × Int32 × Int32 × Int32 × Int32 × Int32 × Int32 × Int32 × Int32 × Int64) × (Nat → Int32)), mX3_undo s_x_acts s_x_acts_cells s_x_now s_x_now_routes s_x_now_routes_cells s_x_now_grants s_x_now_grants_cells = some rx ∧ mX4_undo s_m s_m_diary s_m_now = some rm ∧ rx.1 = rm.1 ∧ Rel s_x s_x_papers s_x_papers_cells rx.2.2.2.1 rx.2.2.2.2.2.2.1 rx.2.2.2.2.2.2.2 rx.2.2.2.2.1 rx.2.2.2.2.2.1 s_x_trial s_x_trial_grants s_x_trial_grants_cells s_x_trial_routes s_x_trial_routes_cells s_x_firstSlot s_x_firstSlot_grants s_x_firstSlot_grants_cells s_x_firstSlot_routes s_x_firstSlot_routes_cells s_x_secondSlot s_x_secondSlot_grants s_x_secondSlot_grants_cells s_x_secondSlot_routes s_x_secondSlot_routes_cells rx.2.1 rx.2.2.1 s_x_seen s_x_seen_cells s_x_text s_x_text_letters s_x_text_papers s_x_text_papers_cells s_x_text_grants s_x_text_grants_cells s_x_text_routes s_x_text_routes_cells s_x_doings rm.2.1 s_m_text s_m_paper rm.2.2 s_m_trial s_m_diary s_m_kept s_m_isKept s_m_seenAt s_m_worth s_m_readPaper s_m_read := by
  obtain ⟨P, bk, hs, k0, k1, sn, t, len, nx, hW, hC, hR⟩ := id h
  obtain ⟨wP, wB, wh1, wh2, wk0, wk1, ws1, ws2, wl1, wl2, wn⟩ := id hW
  obtain ⟨bG1, bR1, bG, bR, bD⟩ := id wB
  obtain ⟨cP, cN, cT, cK0, cK1, cA, cS, cX, cW, cM⟩ := id hC
  obtain ⟨cb, cg, cr⟩ := id cN
  obtain ⟨rM, rX, rP, rN, rD, rK, rS⟩ := id hR
  obtain ⟨m1, m2, m3, m4, m5, m6⟩ := id rM
  obtain ⟨n1, n2, z0, zg, z41, zr, z63, z64, z65⟩ := id rN
  have hday : bk.2.2.2.2 < 2 ^ 31 := by omega
  obtain ⟨cell, hr, ha⟩ := id cA
  by_cases hn : hs.length = 0
  · refine ⟨(-3, s_x_acts, s_x_acts_cells, s_x_now, s_x_now_routes, s_x_now_routes_cells, s_x_now_grants, s_x_now_grants_cells), (-3, s_m, s_m_now), ?_, ?_, rfl, h⟩
    · unfold mX3_undo
      rw [hr.cnt, hn, if_neg (by decide)]
    · unfold mX4_undo
      rw [m3, hn, if_pos (by decide)]
  · obtain ⟨n, en⟩ : ∃ n, hs.length = n + 1 := ⟨hs.length - 1, by omega⟩
    have hbef := wh2 n (by omega)
    have hact := ha n (by omega)
    have hst : stA hs bk (n + 1) = bk := by unfold stA; rw [if_neg (by omega)]
    rw [hst] at hact
    obtain ⟨y, ey, hy⟩ := takeBack_ok hr (i0 := n) (by omega) hact hbef cN
    obtain ⟨o1, a1, ec, rc⟩ := close_ok hr (i := n) (by omega)
    have hrow := rD n (by omega)
    rw [show (nx + 14 - hs.length + n) % 14 = (nx + 13) % 14 by omega] at hrow
    obtain ⟨g', eu, hg⟩ := undo_l (d := s_m_diary) (t := (s_m.1, s_m.2.1, nI n, nI ((nx + 13) % 14), s_m.2.2.2.2.1, s_m.2.2.2.2.2.1, s_m.2.2.2.2.2.2.1, s_m.2.2.2.2.2.2.2.1, s_m.2.2.2.2.2.2.2.2.1, s_m.2.2.2.2.2.2.2.2.2)) (q := (nx + 13) % 14) rfl (Nat.mod_lt _ (by decide)) FU 0 s_m_now (Nat.zero_le _) (by rw [FU_eq]; decide) (fun j hj => by omega)
    have lt : (hs.take n).length = n := by rw [List.length_take]; omega
    have hAt : ∀ j, j < n → hA (hs.take n) j = hA hs j := fun j hj => by unfold hA; rw [gd_take _ _ hj]
    refine ⟨(o1.2.2, o1, a1, y.1, y.2.1, y.2.2.1, y.2.2.2.1, y.2.2.2.2), (nI n, (s_m.1, s_m.2.1, nI n, nI ((nx + 13) % 14), s_m.2.2.2.2.1, s_m.2.2.2.2.2.1, s_m.2.2.2.2.2.2.1, s_m.2.2.2.2.2.2.2.1, s_m.2.2.2.2.2.2.2.2.1, s_m.2.2.2.2.2.2.2.2.2), g'), ?_, ?_, ?_, P, hA hs n, hs.take n, k0, k1, sn, t, len, (nx + 13) % 14, ⟨wP, hbef, by omega, fun j hj => by rw [hAt j (by omega)]; exact wh2 j (by omega), wk0, wk1, ws1, ws2, wl1, wl2, Nat.mod_lt _ (by decide)⟩, ⟨cP, hy, cT, cK0, cK1, ⟨_, by rw [lt]; rw [en] at rc; exact rc, fun j hj => ?_⟩, cS, cX, cW, cM⟩, ⟨m1, m2, by rw [lt], rfl, m5, m6⟩, rX, rP, RowR.cong hrow (fun j hj => hg j hj), fun j hj => ?_, rK, rS⟩
    · unfold mX3_undo
      rw [hr.cnt, en, nI_pred, if_pos (nI_pos' (by omega)), ey, Option.bind_some, ec, Option.bind_some]
    · unfold mX4_undo
      rw [m3, en, if_neg (nI_ne0 (by omega) (by omega)), m4, L14, nI_add, show nx + 14 = (nx + 13) + 1 by omega, nI_pred, show nI (nx + 13) - nI (nx + 13) / nI 14 * nI 14 = nI ((nx + 13) % 14) from pk_rem (by omega) (by decide) (by decide), bnd_eq]
      rw [nI_pred]
      exact eu
    · dsimp only
      rw [rc.cnt, en]
      rfl
    · rw [lt] at hj
      rw [hAt j hj]
      have h2 : stA (hs.take n) (hA hs n) (j + 1) = stA hs bk (j + 1) := by
        unfold stA
        rw [lt, if_pos (show j + 1 < hs.length by omega)]
        by_cases z : j + 1 < n
        · rw [if_pos z, hAt _ z]
        · rw [if_neg z, show j + 1 = n by omega]
      rw [h2]
      refine (ha j (by omega)).cong (fun d hd => ?_)
      rw [if_pos hj]
    · rw [lt] at hj ⊢
      rw [hAt j hj, show ((nx + 13) % 14 + 14 - n + j) % 14 = (nx + 14 - hs.length + j) % 14 by omega]
      exact rD j (by omega)
end L2
