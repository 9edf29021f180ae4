/-! which mosts go with what was seen -/
def wG (G : List GN) (g m : Nat) : List GN := G.set g ((gA G g).1, (gA G g).2.1, (gA G g).2.2.1, (gA G g).2.2.2.1, m)
theorem wG_len (G : List GN) (g m : Nat) : (wG G g m).length = G.length := List.length_set
theorem wG_g {G : List GN} {g : Nat} (hg : g < G.length) (m : Nat) : gA (wG G g m) g = ((gA G g).1, (gA G g).2.1, (gA G g).2.2.1, (gA G g).2.2.2.1, m) := by
  unfold wG
  rw [gA, List.getD_eq_getElem?_getD, List.getElem?_set_self hg]
  rfl
theorem wG_n {G : List GN} {g i : Nat} (h : i ≠ g) (m : Nat) : gA (wG G g m) i = gA G i := by
  unfold wG
  rw [gA, List.getD_eq_getElem?_getD, List.getElem?_set_ne (fun e => h e.symm)]
  unfold gA
  rw [List.getD_eq_getElem?_getD]
def wA (p : Nat → Bool) : Nat → Nat → Int32 → Int32
  | 0, _, v => v
  | n + 1, m, v => wA p n (m + 1) (if p m = true then v ||| ((1 : Int32) <<< (nI m &&& 31)) else v)
section WH
variable {P : List PN} {G : List GN} {R : List RN} {S : List SN} {rev aside : Int32} {day : Nat} {f w : Nat → Int32} {g : Nat}
theorem wG_ok {np : Nat} (hG : ∀ k, k < G.length → gOk np (gA G k)) (hg : g < G.length) {m : Nat} (h1 : (gA G g).2.2.2.1 ≤ m) (h2 : m ≤ 5) : ∀ k, k < (wG G g m).length → gOk np (gA (wG G g m) k) := by
  intro k hk
  rw [wG_len] at hk
  by_cases q : k = g
  · subst q
    rw [wG_g hg]
    obtain ⟨a1, a2, a3, a4, a5⟩ := hG k hk
    exact ⟨a1, a2, a3, h1, h2⟩
  · rw [wG_n q]
    exact hG k hk
theorem RowR.most (h : RowR G R rev aside day f) (hg : g < G.length) (m : Nat) : RowR (wG G g m) R rev aside day (upd f (1 + 5 * g + 4) (nI m)) := by
  obtain ⟨n1, n2, z0, zg, z41, zr, z63, z64, z65⟩ := h
  refine ⟨by rw [wG_len]; exact n1, n2, by rw [pk_un (by omega), wG_len]; exact z0, fun i hi => ?_, by rw [pk_un (by omega)]; exact z41, fun i hi => ?_, by rw [pk_un (by omega)]; exact z63, by rw [pk_un (by omega)]; exact z64, by rw [pk_un (by omega)]; exact z65⟩
  · rw [wG_len] at hi
    obtain ⟨a1, a2, a3, a4, a5⟩ := zg i hi
    by_cases q : i = g
    · subst q
      rw [wG_g hg, pk_us]
      exact ⟨by rw [pk_un (by omega)]; exact a1, by rw [pk_un (by omega)]; exact a2, by rw [pk_un (by omega)]; exact a3, by rw [pk_un (by omega)]; exact a4, rfl⟩
    · rw [wG_n q]
      exact ⟨by rw [pk_un (by omega)]; exact a1, by rw [pk_un (by omega)]; exact a2, by rw [pk_un (by omega)]; exact a3, by rw [pk_un (by omega)]; exact a4, by rw [pk_un (by omega)]; exact a5⟩
  · obtain ⟨a1, a2, a3⟩ := zr i hi
    exact ⟨by rw [pk_un (by omega)]; exact a1, by rw [pk_un (by omega)]; exact a2, by rw [pk_un (by omega)]; exact a3⟩
def wP (P : List PN) (G : List GN) (S : List SN) (rev aside : Int32) (day g m : Nat) : Bool := agB (cnK P (wG G g m) rev aside day) (wG G g m) S S.length
def WI (G : List GN) (g : Nat) (o : I3) (a : Ar) : Prop := ∃ cell, RowsIs 8 6 G.length cell o a ∧ ∀ j, j < G.length → ∀ d, d < 6 → ¬ (j = g ∧ d = 5) → cell j d = gcell (gA G j) d
theorem WI.put {o : I3} {a : Ar} (h : WI G g o a) (hg : g < G.length) (m : Nat) : ∃ a', mX1_put o a (nI g) (5 : Int32) (nI m) = some a' ∧ GrC (wG G g m) o a' ∧ WI G g o a' := by
  obtain ⟨cell, h1, h2⟩ := h
  obtain ⟨a', e, h3⟩ := put_ok h1 hg (show 5 < 6 by decide) (nI m)
  refine ⟨a', e, ?_, _, h3, ?_⟩
  · unfold GrC
    rw [wG_len]
    refine RowsIs.cong h3 (fun i hi c hc => ?_)
    by_cases q : i = g
    · subst q
      rw [wG_g hi]
      by_cases q2 : c = 5
      · subst q2
        rw [if_pos ⟨rfl, rfl⟩]
        rfl
      · rw [if_neg (fun z => q2 z.2), h2 i hi c hc (fun z => q2 z.2)]
        rcases (show c = 0 ∨ c = 1 ∨ c = 2 ∨ c = 3 ∨ c = 4 by omega) with rfl | rfl | rfl | rfl | rfl <;> rfl
    · rw [if_neg (fun z => q z.1), wG_n q, h2 i hi c hc (fun z => q z.1)]
  · intro j hj d hd hn
    rw [if_neg hn]
    exact h2 j hj d hd hn
theorem which_c (hP : PLok P) (hG : ∀ k, k < G.length → gOk P.length (gA G k)) (hS : ∀ k, k < S.length → sOk (qA S k)) {po : I3} {pa : Ar} (h : PapC P po pa) {so : I3} {sa : Ar} (s : SeC S so sa) {bo : I3} (hb : bo = (rev, aside, nI day)) (hday : day < 2 ^ 31) (hg : g < G.length) (n1 n2 : I3) (n3 : Ar) (n4 : I3) (n5 : Ar) (go ro : I3) (ra : Ar) : ∀ (k m : Nat) (v : Int32) (a : Ar), (gA G g).2.2.2.1 ≤ m → m ≤ 6 → 6 - m < k → WI G g go a → ∃ a', mX3_which_b42 n1 n2 bo go n3 ro n4 n5 ra po pa so sa (nI g) k v (nI m) a = some (wA (wP P G S rev aside day g) (6 - m) m v, bo, go, a', ro, ra) ∧ RowsSh 8 6 go a' := by
  intro k
  induction k with
  | zero => intro m v a h0 h1 h2; omega
  | succ k ih =>
    intro m v a h0 h1 h2 hw
    rw [mX3_which_b42]
    by_cases hi : m < 6
    · obtain ⟨a', e, h3, h4⟩ := hw.put hg m
      rw [if_neg (show ¬ (5 : Int32) < nI m by rw [L5]; exact fun z => nI_nlt (by omega) (by omega) z), e, Option.bind_some, agrees_ok hP (wG_ok hG hg h0 (by omega)) hS h h3 s hb hday, Option.bind_some, bnd_eq, nI_1, show 6 - m = (6 - (m + 1)) + 1 by omega, wA]
      by_cases q : wP P G S rev aside day g m = true
      · rw [if_pos q, if_pos (show agB (cnK P (wG G g m) rev aside day) (wG G g m) S S.length = true from q)]
        exact ih (m + 1) _ a' (by omega) (by omega) (by omega) h4
      · rw [if_neg q, if_neg (show ¬ agB (cnK P (wG G g m) rev aside day) (wG G g m) S S.length = true from q)]
        exact ih (m + 1) _ a' (by omega) (by omega) (by omega) h4
    · have : m = 6 := by omega
      subst this
      rw [if_pos (by decide)]
      obtain ⟨cell, h5, _⟩ := hw
      exact ⟨a, rfl, h5.sh⟩
theorem agB_s (c : Nat → Bool) (G : List GN) (S : List SN) (n : Nat) : agB c G S (n + 1) = (agB c G S n && decide (stS c G (qA S n).1 (qA S n).2.1 (qA S n).2.2.1 G.length = (qA S n).2.2.2)) := by
  unfold agB
  rw [anyB_s, Bool.not_or, Bool.not_not]
theorem which_r1 (hP : PLok P) (hG : ∀ k, k < G.length → gOk P.length (gA G k)) (hS : ∀ k, k < S.length → sOk (qA S k)) (h : PapR P f) (hr : RowR G R rev aside day w) (hday : day < 2 ^ 31) {t : MO} (ht : t.2.2.2.2.1 = nI S.length) (hn : S.length ≤ 6) {z : Nat → Int32} (hz : SeenR S z) (now : Nat → Int32) (k25 : Int32 → Int32 → (Nat → Int32) → Option (Int32 × (Nat → Int32))) (v1 v2 : Int32) (q : Nat) : ∀ (m i : Nat), i ≤ S.length → S.length - i < m → mX4_which_b61 k25 t now w z f v1 v2 (nI q) m (agB (cnK P G rev aside day) G S i) (nI i) = k25 (if agB (cnK P G rev aside day) G S S.length = true then v2 ||| ((1 : Int32) <<< (nI q &&& 31)) else v2) (nI (q + 1)) w := by
  intro m
  induction m with
  | zero => intro i h1 h2; omega
  | succ m ih =>
    intro i h1 h2
    rw [mX4_which_b61, ht]
    by_cases hi : i < S.length
    · rw [if_neg (nI_ge hi (by omega)), nI_1]
      obtain ⟨e0, e1, e2, e3⟩ := hz i hi
      obtain ⟨s1, s2, s3⟩ := hS i hi
      have hx := ih (i + 1) hi (by omega)
      rw [agB_s] at hx
      cases qa : agB (cnK P G rev aside day) G S i with
      | true =>
        rw [if_pos rfl, show (4 : Int32) * nI i = nI (4 * i) from pk_mul 4 i, L1, L2, L3, nI_add, nI_add, nI_add, rd_ok rfl (by omega) (by decide), rd_ok rfl (by omega) (by decide), rd_ok rfl (by omega) (by decide), e0, e1, e2, stateOf_r hP hG h hr hday s1 s2, Option.bind_some, rd_ok rfl (by omega) (by decide), e3]
        rw [qa, Bool.true_and] at hx
        have hl := stS_lt (cnK P G rev aside day) G (qA S i).1 (qA S i).2.1 (qA S i).2.2.1 G.length
        by_cases q2 : stS (cnK P G rev aside day) G (qA S i).1 (qA S i).2.1 (qA S i).2.2.1 G.length = (qA S i).2.2.2
        · rw [if_pos (by rw [q2])]
          rw [decide_eq_true q2] at hx
          exact hx
        · rw [if_neg (fun z => q2 ((nI_eq (by omega) (by omega)).mp z))]
          rw [decide_eq_false q2] at hx
          exact hx
      | false =>
        rw [if_neg Bool.false_ne_true]
        rw [qa, Bool.false_and] at hx
        exact hx
    · have : i = S.length := by omega
      subst this
      rw [if_pos (nI_le (Nat.le_refl _) (by omega)), nI_1, or0]
      cases agB (cnK P G rev aside day) G S S.length with
      | true => rw [if_pos rfl, if_pos rfl]
      | false => rw [if_neg Bool.false_ne_true, if_neg Bool.false_ne_true]
theorem which_r (hP : PLok P) (hG : ∀ k, k < G.length → gOk P.length (gA G k)) (hS : ∀ k, k < S.length → sOk (qA S k)) (h : PapR P f) (hr : RowR G R rev aside day w) (hday : day < 2 ^ 31) {t : MO} (ht : t.2.2.2.2.1 = nI S.length) (hn : S.length ≤ 6) {z : Nat → Int32} (hz : SeenR S z) (hg : g < G.length) : ∀ (k m : Nat) (v : Int32) (a : Nat → Int32), (gA G g).2.2.2.1 ≤ m → m ≤ 6 → 6 - m < k → ∃ a', mX4_which_b25 t w z f (nI g) k v (nI m) a = some (wA (wP P G S rev aside day g) (6 - m) m v, a') := by
  intro k
  induction k with
  | zero => intro m v a h0 h1 h2; omega
  | succ k ih =>
    intro m v a h0 h1 h2
    rw [mX4_which_b25]
    by_cases hi : m < 6
    · have h8 := hr.1
      obtain ⟨g', eg, hg'⟩ := copy_r w a
      rw [if_neg (show ¬ (6 : Int32) ≤ nI m by rw [L6]; exact nI_ge hi (by decide)), eg, Option.bind_some, show (1 : Int32) + (5 : Int32) * nI g = nI (1 + 5 * g) by rw [L5, pk_mul, L1, nI_add], L4, nI_add, wr_ok rfl (by omega) (by decide)]
      have hr2 := RowR.most (RowR.cong hr hg') hg m
      have := which_r1 hP (wG_ok hG hg h0 (by omega)) hS h hr2 hday ht hn hz w (mX4_which_b25 t w z f (nI g) k) (nI g) v m FU 0 (Nat.zero_le _) (by rw [FU_eq]; omega)
      refine Exists.elim (ih (m + 1) (if wP P G S rev aside day g m = true then v ||| ((1 : Int32) <<< (nI m &&& 31)) else v) (upd g' (1 + 5 * g + 4) (nI m)) (by omega) (by omega) (by omega)) (fun a' ea => ⟨a', ?_⟩)
      rw [show 6 - m = (6 - (m + 1)) + 1 by omega, wA]
      exact this.trans ea
    · have : m = 6 := by omega
      subst this
      rw [if_pos (by decide)]
      exact ⟨a, rfl⟩
end WH
section L2
variable {s_x : Int32 × Int64} {s_x_papers : Int32 × Int32 × Int32} {s_x_papers_cells : Ar} {s_x_now : Int32 × Int32 × Int32} {s_x_now_grants : Int32 × Int32 × Int32} {s_x_now_grants_cells : Ar} {s_x_now_routes : Int32 × Int32 × Int32} {s_x_now_routes_cells : Ar} {s_x_trial : Int32 × Int32 × Int32} {s_x_trial_grants : Int32 × Int32 × Int32} {s_x_trial_grants_cells : Ar} {s_x_trial_routes : Int32 × Int32 × Int32} {s_x_trial_routes_cells : Ar} {s_x_firstSlot : Int32 × Int32 × Int32} {s_x_firstSlot_grants : Int32 × Int32 × Int32} {s_x_firstSlot_grants_cells : Ar} {s_x_firstSlot_routes : Int32 × Int32 × Int32} {s_x_firstSlot_routes_cells : Ar} {s_x_secondSlot : Int32 × Int32 × Int32} {s_x_secondSlot_grants : Int32 × Int32 × Int32} {s_x_secondSlot_grants_cells : Ar} {s_x_secondSlot_routes : Int32 × Int32 × Int32} {s_x_secondSlot_routes_cells : Ar} {s_x_acts : Int32 × Int32 × Int32} {s_x_acts_cells : Ar} {s_x_seen : Int32 × Int32 × Int32} {s_x_seen_cells : Ar} {s_x_text : Int32 × Int32 × Int32} {s_x_text_letters : Nat → Int32} {s_x_text_papers : Int32 × Int32 × Int32} {s_x_text_papers_cells : Ar} {s_x_text_grants : Int32 × Int32 × Int32} {s_x_text_grants_cells : Ar} {s_x_text_routes : Int32 × Int32 × Int32} {s_x_text_routes_cells : Ar} {s_x_doings : Nat → Int32} {s_m : Int32 × Int32 × Int32 × Int32 × Int32 × Int32 × Int32 × Int32 × Int32 × Int64} {s_m_text : Nat → Int32} {s_m_paper : Nat → Int32} {s_m_now : Nat → Int32} {s_m_trial : Nat → Int32} {s_m_diary : Nat → Int32} {s_m_kept : Nat → Int32} {s_m_isKept : Nat → Int32} {s_m_seenAt : Nat → Int32} {s_m_worth : Nat → Int32} {s_m_readPaper : Nat → Int32} {s_m_read : Nat → Int32}
set_option maxHeartbeats 1000000 in
theorem L_which (h : Rel s_x s_x_papers s_x_papers_cells s_x_now s_x_now_grants s_x_now_grants_cells s_x_now_routes s_x_now_routes_cells s_x_trial s_x_trial_grants s_x_trial_grants_cells s_x_trial_routes s_x_trial_routes_cells s_x_firstSlot s_x_firstSlot_grants s_x_firstSlot_grants_cells s_x_firstSlot_routes s_x_firstSlot_routes_cells s_x_secondSlot s_x_secondSlot_grants s_x_secondSlot_grants_cells s_x_secondSlot_routes s_x_secondSlot_routes_cells s_x_acts s_x_acts_cells s_x_seen s_x_seen_cells s_x_text s_x_text_letters s_x_text_papers s_x_text_papers_cells s_x_text_grants s_x_text_grants_cells s_x_text_routes s_x_text_routes_cells s_x_doings s_m s_m_text s_m_paper s_m_now s_m_trial s_m_diary s_m_kept s_m_isKept s_m_seenAt s_m_worth s_m_readPaper s_m_read) (v1 : Int32) : ∃ (rx : Int32 × (Int32 × Int32 × Int32) × (Int32 × Int32 × Int32) × Ar × (Int32 × Int32 × Int32) × Ar) (rm : Int32 × (Nat → Int32)), mX3_which s_x_now s_x_now_grants s_x_trial s_x_trial_grants s_x_now_grants_cells s_x_trial_grants_cells s_x_trial_routes s_x_now_routes s_x_now_routes_cells s_x_trial_routes_cells s_x_papers s_x_papers_cells s_x_seen s_x_seen_cells v1 = some rx ∧ mX4_which s_m s_m_now s_m_trial s_m_seenAt s_m_paper v1 = some rm ∧ rx.1 = rm.1 ∧ Rel s_x s_x_papers s_x_papers_cells s_x_now s_x_now_grants s_x_now_grants_cells s_x_now_routes s_x_now_routes_cells rx.2.1 rx.2.2.1 rx.2.2.2.1 rx.2.2.2.2.1 rx.2.2.2.2.2 s_x_firstSlot s_x_firstSlot_grants s_x_firstSlot_grants_cells s_x_firstSlot_routes s_x_firstSlot_routes_cells s_x_secondSlot s_x_secondSlot_grants s_x_secondSlot_grants_cells s_x_secondSlot_routes s_x_secondSlot_routes_cells s_x_acts s_x_acts_cells s_x_seen s_x_seen_cells s_x_text s_x_text_letters s_x_text_papers s_x_text_papers_cells s_x_text_grants s_x_text_grants_cells s_x_text_routes s_x_text_routes_cells s_x_doings s_m s_m_text s_m_paper s_m_now rm.2 s_m_diary s_m_kept s_m_isKept s_m_seenAt s_m_worth s_m_readPaper s_m_read := by
  obtain ⟨P, bk, hs, k0, k1, sn, t, len, nx, hW, hC, hR⟩ := id h
  obtain ⟨wP1, wB, wh1, wh2, wk0, wk1, ws1, ws2, wl1, wl2, wn⟩ := id hW
  obtain ⟨bG1, bR1, bG, bR, bD⟩ := id wB
  obtain ⟨cP, cN, cT, cK0, cK1, cA, cS, cX, cW, cM⟩ := id hC
  obtain ⟨cb, cg, cr⟩ := id cN
  obtain ⟨rM, rX, rP, rN, rD, rK, rS⟩ := id hR
  obtain ⟨m1, m2, m3, m4, m5, m6⟩ := id rM
  obtain ⟨n1, n2, z0, zg, z41, zr, z63, z64, z65⟩ := id rN
  have hday : bk.2.2.2.2 < 2 ^ 31 := by omega
  rcases idx_both cg v1 with ⟨i, hi, rfl, e1, e2⟩ | ⟨hno, e1, e2⟩
  · obtain ⟨y, ey, hy⟩ := bcopy (bo' := s_x_trial) cN cT
    obtain ⟨gi1, gi2, gi3, gi4, gi5⟩ := bG i hi
    obtain ⟨a', ea, hsh⟩ := which_c (rev := bk.2.2.1) (aside := bk.2.2.2.1) (day := bk.2.2.2.2) (show PLok P from wP1) bG ws2 cP cS hy.1 hday hi s_x_now s_x_now_grants s_x_now_grants_cells s_x_now_routes s_x_now_routes_cells y.2.1 y.2.2.2.1 y.2.2.2.2 FU (gA bk.1 i).2.2.2.1 0 y.2.2.1 (Nat.le_refl _) (by omega) (by rw [FU_eq]; omega) ⟨_, hy.2.1, fun j hj d hd _ => rfl⟩
    obtain ⟨b', eb⟩ := which_r (show PLok P from wP1) bG ws2 rP rN hday m5 ws1 rS hi FU (gA bk.1 i).2.2.2.1 0 s_m_trial (Nat.le_refl _) (by omega) (by rw [FU_eq]; omega)
    refine ⟨(wA (wP P bk.1 sn bk.2.2.1 bk.2.2.2.1 bk.2.2.2.2 i) (6 - (gA bk.1 i).2.2.2.1) (gA bk.1 i).2.2.2.1 0, y.1, y.2.1, a', y.2.2.2.1, y.2.2.2.2), (wA (wP P bk.1 sn bk.2.2.1 bk.2.2.2.1 bk.2.2.2.2 i) (6 - (gA bk.1 i).2.2.2.1) (gA bk.1 i).2.2.2.1 0, b'), ?_, ?_, rfl, P, bk, hs, k0, k1, sn, t, len, nx, hW, ⟨cP, cN, ⟨?_, ?_⟩, cK0, cK1, cA, cS, cX, cW, cM⟩, hR⟩
    · unfold mX3_which
      rw [e1, Option.bind_some, if_pos rfl, ey, Option.bind_some, L1, at_ok cg hi (by decide), Option.bind_some]
      exact ea
    · unfold mX4_which
      rw [isGrant_r rN, e2, Option.bind_some, if_pos rfl, show (1 : Int32) + (5 : Int32) * nI i = nI (1 + 5 * i) by rw [L5, pk_mul, L1, nI_add], L3, nI_add, rd_ok rfl (by omega) (by decide), (zg i hi).2.2.2.1]
      exact eb
    · exact hsh
    · exact hy.2.2.sh
  · refine ⟨(-1, s_x_trial, s_x_trial_grants, s_x_trial_grants_cells, s_x_trial_routes, s_x_trial_routes_cells), (-1, s_m_trial), ?_, ?_, rfl, h⟩
    · unfold mX3_which
      rw [e1]
      rfl
    · unfold mX4_which
      rw [isGrant_r rN, e2]
      rfl
end L2
