theorem canBe_l {P : List PN} {bk : Bk} (wP : PLok P) (wB : bkOk P.length bk) {po : I3} {pa : Ar} (cP : PapC P po pa) {bo go : I3} {ga : Ar} {ro : I3} {ra : Ar} (cN : BooksIs bk bo go ga ro ra) {fp w : Nat → Int32} (rP : PapR P fp) (rN : RowIs bk w) {t : MO} (ht : t.2.1 = nI P.length) {D : Nat} (hD : D < 10000) :
    ∃ r bo' ro' ra' w' bk', mX0_canBe bo po ro pa go ga ra (nI D) = some (r, bo', ro', ra') ∧ mX4_judged t w fp (nI D / (1000 : Int32)) ((nI D / (100 : Int32)) - (nI D / (100 : Int32)) / (10 : Int32) * (10 : Int32)) ((nI D / (10 : Int32)) - (nI D / (10 : Int32)) / (10 : Int32) * (10 : Int32)) (nI D - nI D / (10 : Int32) * (10 : Int32)) = some (r, w') ∧ bkOk P.length bk' ∧ BooksIs bk' bo' go ga ro' ra' ∧ RowIs bk' w' := by
  have e3 : nI D / (1000 : Int32) = nI (D / 1000) := pk_div (by omega) (by decide) (by decide)
  have e2 : nI D / (100 : Int32) = nI (D / 100) := pk_div (by omega) (by decide) (by decide)
  have e1 : nI D / (10 : Int32) = nI (D / 10) := pk_div (by omega) (by decide) (by decide)
  have f2 : nI (D / 100) - nI (D / 100) / (10 : Int32) * (10 : Int32) = nI (D / 100 % 10) := pk_rem (by omega) (by decide) (by decide)
  have f1 : nI (D / 10) - nI (D / 10) / (10 : Int32) * (10 : Int32) = nI (D / 10 % 10) := pk_rem (by omega) (by decide) (by decide)
  have f0 : nI D - nI (D / 10) * (10 : Int32) = nI (D % 10) := by rw [← e1]; exact pk_rem (by omega) (by decide) (by decide)
  have fp2 : nI D - nI D / (100 : Int32) * (100 : Int32) = nI (10 * (D / 10 % 10) + D % 10) := by
    rw [show nI D - nI D / (100 : Int32) * (100 : Int32) = nI (D % 100) from pk_rem (by omega) (by decide) (by decide)]
    congr 1
    omega
  obtain ⟨r, bo', ro', ra', w', bk', q1, q2, q3⟩ := canBe_b wP wB cP cN rP rN ht (v := nI D) (b := D / 100 % 10) e3 fp2 (by omega) (by omega) (by omega) (by omega)
  refine ⟨r, bo', ro', ra', w', bk', ?_, ?_, q3⟩
  · unfold mX0_canBe
    rw [bnd_eq, e2, f2, e1, f1, f0]
    by_cases c0 : D / 10 % 10 = 0
    · rw [decide_eq_true c0] at q1
      rw [c0, if_pos (show nI 0 = (0 : Int32) from rfl)]
      exact q1
    · rw [decide_eq_false c0] at q1
      rw [if_neg (show ¬ nI (D / 10 % 10) = (0 : Int32) from fun z => c0 ((nI_eq (b := 0) (by omega) (by decide)).mp z))]
      exact q1
  · rw [e3, e2, f2, e1, f1, f0]
    unfold mX4_judged
    by_cases c0 : D / 10 % 10 = 0
    · rw [decide_eq_true c0, Bool.true_and] at q2
      rw [if_pos (show nI (D / 10 % 10) = (0 : Int32) by rw [c0]; rfl)]
      by_cases d0 : D % 10 = 0
      · rw [decide_eq_true d0] at q2
        rw [if_pos (show nI (D % 10) = (0 : Int32) by rw [d0]; rfl)]
        exact q2
      · rw [decide_eq_false d0] at q2
        rw [if_neg (show ¬ nI (D % 10) = (0 : Int32) from fun z => d0 ((nI_eq (b := 0) (by omega) (by decide)).mp z))]
        exact q2
    · rw [decide_eq_false c0, Bool.false_and] at q2
      rw [if_neg (show ¬ nI (D / 10 % 10) = (0 : Int32) from fun z => c0 ((nI_eq (b := 0) (by omega) (by decide)).mp z))]
      exact q2
theorem split_l : ∀ (j k X : Nat) (z : Int32) (f : Nat → Int32), j ≤ 4 → j < k → X < 2 ^ 63 → z = nI j + (-1) → ∃ f', mX3_splitDoings_b12 k (lN X) z f = some (decide (X / 10000 ^ j = 0), f') ∧ (∀ i, i < j → f' i = nI (X / 10000 ^ (j - 1 - i) % 10000)) ∧ ∀ i, j ≤ i → f' i = f i := by
  intro j
  induction j with
  | zero =>
    intro k X z f h1 h2 h3 h4
    obtain ⟨k, rfl⟩ : ∃ q, k = q + 1 := ⟨k - 1, by omega⟩
    refine ⟨f, ?_, fun i hi => by omega, fun i hi => rfl⟩
    rw [mX3_splitDoings_b12, h4, if_pos (by decide), Nat.pow_zero, Nat.div_one]
    by_cases x0 : X = 0
    · rw [decide_eq_true x0, if_pos ((lg_cmp_eq _ _).mpr (by rw [x0]; rfl))]
    · rw [decide_eq_false x0, if_neg (show ¬ lg_cmp (lN X) (0 : Int64) = 0 from fun z => x0 ((pk_lEQ (b := 0) h3 (by decide)).mp ((lg_cmp_eq _ _).mp z)))]
  | succ j ih =>
    intro k X z f h1 h2 h3 h4
    obtain ⟨k, rfl⟩ : ∃ q, k = q + 1 := ⟨k - 1, by omega⟩
    rw [pk_m1] at h4
    rw [mX3_splitDoings_b12, h4, if_neg (nI_pos (by omega)), show (10000 : Int64) = lN 10000 from rfl, pk_lRem h3 (by decide) (by decide), pk_lDiv h3 (by decide) (by decide), lN_i, wr_ok rfl (by omega) (by decide)]
    obtain ⟨f', e, g1, g2⟩ := ih k (X / 10000) (nI j + (-1)) (upd f j (nI (X % 10000))) (by omega) (by omega) (by omega) rfl
    refine ⟨f', ?_, fun i hi => ?_, fun i hi => ?_⟩
    · rw [e, Nat.div_div_eq_div_mul, Nat.pow_succ, Nat.mul_comm]
    · by_cases q : i = j
      · subst q
        rw [g2 i (Nat.le_refl _), pk_us, show i + 1 - 1 - i = 0 by omega, Nat.pow_zero, Nat.div_one]
      · rw [g1 i (by omega), Nat.div_div_eq_div_mul, show j + 1 - 1 - i = (j - 1 - i) + 1 by omega, Nat.pow_succ, Nat.mul_comm]
    · rw [g2 i (by omega), pk_un (by omega)]
theorem ten_l {n : Nat} (hn : n ≤ 4) : ∀ (m i : Nat), i ≤ n → n - i < m → mX4_tenThousands_b4 (nI n) m (lN (10000 ^ i)) (nI i) = some (lN (10000 ^ n)) := by
  intro m
  induction m with
  | zero => intro i h1 h2; omega
  | succ m ih =>
    intro i h1 h2
    rw [mX4_tenThousands_b4]
    by_cases hi : i < n
    · rw [if_neg (nI_ge hi (by omega)), show (10000 : Int64) = lN 10000 from rfl, lN_mul, ← Nat.pow_succ, nI_1]
      exact ih (i + 1) hi (by omega)
    · have : i = n := by omega
      subst this
      rw [if_pos (nI_le (Nat.le_refl _) (by omega))]
theorem ten_r {n : Nat} (hn : n ≤ 4) : mX4_tenThousands (nI n) = some (lN (10000 ^ n)) := by
  unfold mX4_tenThousands
  exact ten_l hn FU 0 (Nat.zero_le _) (by rw [FU_eq]; omega)
theorem ldv_ok {α : Type} {a d : Nat} {k : Int64 → Option α} (ha : a < 2 ^ 63) (h0 : 0 < d) (hd : d < 2 ^ 63) : ldv (lN a) (lN d) k = k (lN (a / d)) := by
  unfold ldv
  rw [if_neg (fun z => by have := (pk_lEQ (b := 0) hd (by decide)).mp z; omega), pk_lDiv ha h0 hd]
theorem p10k {n : Nat} (h : n ≤ 4) : 0 < 10000 ^ n ∧ 10000 ^ n < 2 ^ 63 := by
  rcases (show n = 0 ∨ n = 1 ∨ n = 2 ∨ n = 3 ∨ n = 4 by omega) with rfl | rfl | rfl | rfl | rfl <;> decide
theorem judge_l {P : List PN} (wP : PLok P) {po : I3} {pa : Ar} (cP : PapC P po pa) {fp : Nat → Int32} (rP : PapR P fp) {t : MO} (ht : t.2.1 = nI P.length) {n X : Nat} (hn : n ≤ 4) (hX : X < 2 ^ 63) {dg : Nat → Int32} (hdg : ∀ i, i < n → dg i = nI (X / 10000 ^ (n - 1 - i) % 10000)) (n1 n2 : I3) (n3 : Ar) (n4 : I3) (n5 : Ar) (now : Nat → Int32) (go : I3) (ga : Ar) : ∀ (m m' i : Nat) (bk : Bk) (bo ro : I3) (ra : Ar) (w : Nat → Int32), i ≤ n → n - i < m → n - i < m' → bkOk P.length bk → BooksIs bk bo go ga ro ra → RowIs bk w →
    ∃ r bo' ro' ra' w', mX3_judge_b42 dg n1 go n2 n3 ga n4 n5 po pa (nI n) m (nI i) bo ro ra = some (r, dg, bo', go, ga, ro', ra') ∧ mX4_judge_b43 t now fp (nI n) (lN X) m' (nI i) w = some (r, w') ∧ BooksSh go ga ro' ra' := by
  intro m
  induction m with
  | zero => intro m' i bk bo ro ra w h1 h2; omega
  | succ m ih =>
    intro m' i bk bo ro ra w h1 h2 h3 wB cN rN
    obtain ⟨m', rfl⟩ : ∃ k, m' = k + 1 := ⟨m' - 1, by omega⟩
    rw [mX3_judge_b42, mX4_judge_b43]
    by_cases hi : i < n
    · obtain ⟨r, bo', ro', ra', w', bk', q1, q2, q3, q4, q5⟩ := canBe_l wP wB cP cN rP rN ht (D := X / 10000 ^ (n - 1 - i) % 10000) (Nat.mod_lt _ (by decide))
      have hp := p10k (n := n - 1 - i) (by omega)
      have hq : X / 10000 ^ (n - 1 - i) < 2 ^ 63 := Nat.lt_of_le_of_lt (Nat.div_le_self _ _) hX
      rw [if_neg (nI_ge hi (by omega)), if_neg (show ¬ (4 : Int32) ≤ nI i by rw [L4]; exact nI_ge (by omega) (by decide)), rd_ok rfl (by omega) (by decide), hdg i hi, q1, Option.bind_some, if_neg (nI_ge hi (by omega)), L1, pk_sub (by omega), pk_sub (by omega), ten_r (by omega), Option.bind_some, ldv_ok hX hp.1 hp.2, bnd_eq, show (10000 : Int64) = lN 10000 from rfl, pk_lRem hq (by decide) (by decide), lN_i, q2, Option.bind_some]
      cases r with
      | true =>
        rw [if_pos rfl, if_pos rfl, nI_add]
        exact ih m' (i + 1) bk' bo' ro' ra' w' (by omega) (by omega) (by omega) q3 q4 q5
      | false =>
        rw [if_neg Bool.false_ne_true, if_neg Bool.false_ne_true]
        exact ⟨nI i, bo', ro', ra', w', rfl, rfl, q4.sh⟩
    · have : i = n := by omega
      subst this
      rw [if_pos (nI_le (Nat.le_refl _) (by omega)), if_pos (nI_le (Nat.le_refl _) (by omega))]
      exact ⟨_, bo, ro, ra, w, rfl, rfl, cN.sh⟩
section L2
variable {s_x : Int32 × Int64} {s_x_papers : Int32 × Int32 × Int32} {s_x_papers_cells : Ar} {s_x_now : Int32 × Int32 × Int32} {s_x_now_grants : Int32 × Int32 × Int32} {s_x_now_grants_cells : Ar} {s_x_now_routes : Int32 × Int32 × Int32} {s_x_now_routes_cells : Ar} {s_x_trial : Int32 × Int32 × Int32} {s_x_trial_grants : Int32 × Int32 × Int32} {s_x_trial_grants_cells : Ar} {s_x_trial_routes : Int32 × Int32 × Int32} {s_x_trial_routes_cells : Ar} {s_x_firstSlot : Int32 × Int32 × Int32} {s_x_firstSlot_grants : Int32 × Int32 × Int32} {s_x_firstSlot_grants_cells : Ar} {s_x_firstSlot_routes : Int32 × Int32 × Int32} {s_x_firstSlot_routes_cells : Ar} {s_x_secondSlot : Int32 × Int32 × Int32} {s_x_secondSlot_grants : Int32 × Int32 × Int32} {s_x_secondSlot_grants_cells : Ar} {s_x_secondSlot_routes : Int32 × Int32 × Int32} {s_x_secondSlot_routes_cells : Ar} {s_x_acts : Int32 × Int32 × Int32} {s_x_acts_cells : Ar} {s_x_seen : Int32 × Int32 × Int32} {s_x_seen_cells : Ar} {s_x_text : Int32 × Int32 × Int32} {s_x_text_letters : Nat → Int32} {s_x_text_papers : Int32 × Int32 × Int32} {s_x_text_papers_cells : Ar} {s_x_text_grants : Int32 × Int32 × Int32} {s_x_text_grants_cells : Ar} {s_x_text_routes : Int32 × Int32 × Int32} {s_x_text_routes_cells : Ar} {s_x_doings : Nat → Int32} {s_m : Int32 × Int32 × Int32 × Int32 × Int32 × Int32 × Int32 × Int32 × Int32 × Int64} {s_m_text : Nat → Int32} {s_m_paper : Nat → Int32} {s_m_now : Nat → Int32} {s_m_trial : Nat → Int32} {s_m_diary : Nat → Int32} {s_m_kept : Nat → Int32} {s_m_isKept : Nat → Int32} {s_m_seenAt : Nat → Int32} {s_m_worth : Nat → Int32} {s_m_readPaper : Nat → Int32} {s_m_read : Nat → Int32}
set_option maxHeartbeats 1000000 in
theorem L_judge (h : Rel s_x s_x_papers s_x_papers_cells s_x_now s_x_now_grants s_x_now_grants_cells s_x_now_routes s_x_now_routes_cells s_x_trial s_x_trial_grants s_x_trial_grants_cells s_x_trial_routes s_x_trial_routes_cells s_x_firstSlot s_x_firstSlot_grants s_x_firstSlot_grants_cells s_x_firstSlot_routes s_x_firstSlot_routes_cells s_x_secondSlot s_x_secondSlot_grants s_x_secondSlot_grants_cells s_x_secondSlot_routes s_x_secondSlot_routes_cells s_x_acts s_x_acts_cells s_x_seen s_x_seen_cells s_x_text s_x_text_letters s_x_text_papers s_x_text_papers_cells s_x_text_grants s_x_text_grants_cells s_x_text_routes s_x_text_routes_cells s_x_doings s_m s_m_text s_m_paper s_m_now s_m_trial s_m_diary s_m_kept s_m_isKept s_m_seenAt s_m_worth s_m_readPaper s_m_read) (v1 : Int32) (v2 : Int64) : ∃ (rx : Int32 × (Nat → Int32) × (Int32 × Int32 × Int32) × (Int32 × Int32 × Int32) × Ar × (Int32 × Int32 × Int32) × Ar) (rm : Int32 × (Nat → Int32)), mX3_judge s_x_doings s_x_trial s_x_now s_x_trial_grants s_x_now_grants s_x_now_grants_cells s_x_trial_grants_cells s_x_trial_routes s_x_now_routes s_x_now_routes_cells s_x_trial_routes_cells s_x_papers s_x_papers_cells v1 v2 = some rx ∧ mX4_judge s_m s_m_now s_m_trial s_m_paper v1 v2 = some rm ∧ rx.1 = rm.1 ∧ Rel s_x s_x_papers s_x_papers_cells s_x_now s_x_now_grants s_x_now_grants_cells s_x_now_routes s_x_now_routes_cells rx.2.2.1 rx.2.2.2.1 rx.2.2.2.2.1 rx.2.2.2.2.2.1 rx.2.2.2.2.2.2 s_x_firstSlot s_x_firstSlot_grants s_x_firstSlot_grants_cells s_x_firstSlot_routes s_x_firstSlot_routes_cells s_x_secondSlot s_x_secondSlot_grants s_x_secondSlot_grants_cells s_x_secondSlot_routes s_x_secondSlot_routes_cells s_x_acts s_x_acts_cells s_x_seen s_x_seen_cells s_x_text s_x_text_letters s_x_text_papers s_x_text_papers_cells s_x_text_grants s_x_text_grants_cells s_x_text_routes s_x_text_routes_cells rx.2.1 s_m s_m_text s_m_paper s_m_now rm.2 s_m_diary s_m_kept s_m_isKept s_m_seenAt s_m_worth s_m_readPaper s_m_read := by
  obtain ⟨P, bk, hs, k0, k1, sn, t, len, nx, hW, hC, hR⟩ := id h
  obtain ⟨wP, wB, wh1, wh2, wk0, wk1, ws1, ws2, wl1, wl2, wn⟩ := id hW
  obtain ⟨bG1, bR1, bG, bR, bD⟩ := id wB
  obtain ⟨cP, cN, cT, cK0, cK1, cA, cS, cX, cW, cM⟩ := id hC
  obtain ⟨cb, cg, cr⟩ := id cN
  obtain ⟨rM, rX, rP, rN, rD, rK, rS⟩ := id hR
  obtain ⟨m1, m2, m3, m4, m5, m6⟩ := id rM
  obtain ⟨n1, n2, z0, zg, z41, zr, z63, z64, z65⟩ := id rN
  have hday : bk.2.2.2.2 < 2 ^ 31 := by omega
  have hin : mX4_in v1.toInt64 (1 : Int64) (4 : Int64) = some (decide ((1 : Int32) ≤ v1 ∧ v1 ≤ 4)) := in_i v1 1 4
  by_cases c0 : v1 < 1
  · refine ⟨(-2, s_x_doings, s_x_trial, s_x_trial_grants, s_x_trial_grants_cells, s_x_trial_routes, s_x_trial_routes_cells), (-2, s_m_trial), by unfold mX3_judge; rw [if_pos c0], ?_, rfl, h⟩
    unfold mX4_judge
    rw [hin, decide_eq_false (fun z => Int32.not_le.mpr c0 z.1)]
    rfl
  · by_cases c1 : 4 < v1
    · refine ⟨(-2, s_x_doings, s_x_trial, s_x_trial_grants, s_x_trial_grants_cells, s_x_trial_routes, s_x_trial_routes_cells), (-2, s_m_trial), by unfold mX3_judge; rw [if_neg c0, if_pos c1], ?_, rfl, h⟩
      unfold mX4_judge
      rw [hin, decide_eq_false (fun z => Int32.not_le.mpr c1 z.2)]
      rfl
    · obtain ⟨n, hn, rfl⟩ := nI_of (x := v1) (fun z => c0 (Int32.lt_trans z (by decide)))
      have hn4 : n ≤ 4 := by
        have := Int32.not_lt.mp c1
        rw [L4, nI_leI hn (by decide)] at this
        exact this
      have hn1 : 1 ≤ n := by
        have := Int32.not_lt.mp c0
        rw [L1, nI_leI (by decide) hn] at this
        exact this
      have hp := p10k hn4
      have hin2 : mX4_in (nI n).toInt64 (1 : Int64) (4 : Int64) = some true := by rw [hin, decide_eq_true ⟨Int32.not_lt.mp c0, Int32.not_lt.mp c1⟩]
      by_cases cn : v2 < 0
      · refine ⟨(-2, s_x_doings, s_x_trial, s_x_trial_grants, s_x_trial_grants_cells, s_x_trial_routes, s_x_trial_routes_cells), (-2, s_m_trial), by unfold mX3_judge; rw [if_neg c0, if_neg c1, if_pos ((lg_cmp_lt _ _).mpr cn)], ?_, rfl, h⟩
        unfold mX4_judge
        rw [hin2, Option.bind_some, if_pos rfl, ten_r hn4, Option.bind_some, in_ok, decide_eq_false (fun z => Int64.not_le.mpr cn z.1)]
        rfl
      · obtain ⟨X, hX, rfl⟩ := pk_lOf cn
        obtain ⟨dg, ed, hd1, _⟩ := split_l n FU X (nI n + (-1)) s_x_doings hn4 (by rw [FU_eq]; omega) hX rfl
        have es : mX3_splitDoings s_x_doings (nI n) (lN X) = some (decide (X / 10000 ^ n = 0), dg) := by
          unfold mX3_splitDoings
          rw [if_neg c1, bnd_eq, Int32.sub_eq_add_neg]
          exact ed
        have ei : mX4_in (lN X) (0 : Int64) (lN (10000 ^ n) - (1 : Int64)) = some (decide (X / 10000 ^ n = 0)) := by
          rw [in_ok, show (1 : Int64) = lN 1 from rfl, lN_sub (by omega)]
          congr 1
          have hx : (lN X ≤ lN (10000 ^ n - 1)) ↔ X ≤ 10000 ^ n - 1 := pk_lLE hX (by omega)
          by_cases q : X / 10000 ^ n = 0
          · have := (Nat.div_eq_zero_iff_lt hp.1).mp q
            rw [decide_eq_true q, decide_eq_true ⟨Int64.not_lt.mp cn, hx.mpr (by omega)⟩]
          · have : ¬ X < 10000 ^ n := fun z => q ((Nat.div_eq_zero_iff_lt hp.1).mpr z)
            rw [decide_eq_false q, decide_eq_false (fun z => this (by have := hx.mp z.2; omega))]
        by_cases q : X / 10000 ^ n = 0
        · rw [decide_eq_true q] at es ei
          obtain ⟨y, ey, hy⟩ := bcopy (bo' := s_x_trial) cN cT
          obtain ⟨g1, eg, hg⟩ := copy_r s_m_now s_m_trial
          obtain ⟨r, bo', ro', ra', w', j1, j2, j3⟩ := judge_l wP cP rP m2 hn4 hX hd1 s_x_now s_x_now_grants s_x_now_grants_cells s_x_now_routes s_x_now_routes_cells s_m_now y.2.1 y.2.2.1 FU FU 0 bk y.1 y.2.2.2.1 y.2.2.2.2 g1 (Nat.zero_le _) (by rw [FU_eq]; omega) (by rw [FU_eq]; omega) wB hy (RowR.cong rN hg)
          refine ⟨(r, dg, bo', y.2.1, y.2.2.1, ro', ra'), (r, w'), ?_, ?_, rfl, P, bk, hs, k0, k1, sn, t, len, nx, hW, ⟨cP, cN, j3, cK0, cK1, cA, cS, cX, cW, cM⟩, hR⟩
          · unfold mX3_judge
            rw [if_neg c0, if_neg c1, if_neg (fun z => cn ((lg_cmp_lt _ _).mp z)), es, Option.bind_some, if_pos rfl, ey, Option.bind_some]
            exact j1
          · unfold mX4_judge
            rw [hin2, Option.bind_some, if_pos rfl, ten_r hn4, Option.bind_some, ei, Option.bind_some, if_pos rfl, eg, Option.bind_some]
            exact j2
        · rw [decide_eq_false q] at es ei
          refine ⟨(-2, dg, s_x_trial, s_x_trial_grants, s_x_trial_grants_cells, s_x_trial_routes, s_x_trial_routes_cells), (-2, s_m_trial), ?_, ?_, rfl, P, bk, hs, k0, k1, sn, t, len, nx, hW, ⟨cP, cN, cT, cK0, cK1, cA, cS, cX, cW, cM⟩, hR⟩
          · unfold mX3_judge
            rw [if_neg c0, if_neg c1, if_neg (fun z => cn ((lg_cmp_lt _ _).mp z)), es]
            rfl
          · unfold mX4_judge
            rw [hin2, Option.bind_some, if_pos rfl, ten_r hn4, Option.bind_some, ei]
            rfl
end L2
