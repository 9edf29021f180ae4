/-! the class's books: what they answer -/
def gcell (g : GN) (c : Nat) : Int32 := cel6 (nI g.2.2.1) (nI g.2.2.2.1) (cov g.2.2.1 g.2.2.2.1) (nI g.2.1) (nI g.1) (nI g.2.2.2.2) c
def rcell (r : RN) (c : Nat) : Int32 := cel6 (nI r.1) (nI r.2.1) (cov r.1 r.2.1) (nI r.2.2) 0 0 c
def pcell (i : Nat) (p : PN) (c : Nat) : Int32 := cel6 (nI p.2.1) (nI p.2.2.1) (cov p.2.1 p.2.2.1) (if i = 0 then -9 else nI p.1) (if i = 0 then -9 else nI p.2.2.2) 0 c
def scell (q : SN) (c : Nat) : Int32 := cel6 (nI q.1) (nI q.2.1) (cov q.1 q.2.1) (nI q.2.2.1) (nI q.2.2.2) 0 c
def PapC (P : List PN) (o : I3) (a : Ar) : Prop := RowsIs 6 5 P.length (fun i c => pcell i (pA P i) c) o a
def GrC (G : List GN) (o : I3) (a : Ar) : Prop := RowsIs 8 6 G.length (fun i c => gcell (gA G i) c) o a
def RtC (R : List RN) (o : I3) (a : Ar) : Prop := RowsIs 7 4 R.length (fun i c => rcell (rA R i) c) o a
def SeC (S : List SN) (o : I3) (a : Ar) : Prop := RowsIs 6 5 S.length (fun i c => scell (qA S i) c) o a
section CB
variable {P : List PN} {G : List GN} {R : List RN} {S : List SN} {po go ro so bo : I3} {pa ga ra sa : Ar} {i : Nat}
theorem p_0 (h : PapC P po pa) (hi : i < P.length) : mX1_at po pa (nI i) (0 : Int32) = some (nI (pA P i).2.1) := at_ok h hi (c := 0) (by decide)
theorem p_1 (h : PapC P po pa) (hi : i < P.length) : mX1_at po pa (nI i) (1 : Int32) = some (nI (pA P i).2.2.1) := at_ok h hi (c := 1) (by decide)
theorem p_2 (h : PapC P po pa) (hi : i < P.length) : mX1_at po pa (nI i) (2 : Int32) = some (cov (pA P i).2.1 (pA P i).2.2.1) := at_ok h hi (c := 2) (by decide)
theorem p_3 (h : PapC P po pa) (hi : i < P.length) : mX1_at po pa (nI i) (3 : Int32) = some (if i = 0 then -9 else nI (pA P i).1) := at_ok h hi (c := 3) (by decide)
theorem p_4 (h : PapC P po pa) (hi : i < P.length) : mX1_at po pa (nI i) (4 : Int32) = some (if i = 0 then -9 else nI (pA P i).2.2.2) := at_ok h hi (c := 4) (by decide)
theorem g_0 (h : GrC G go ga) (hi : i < G.length) : mX1_at go ga (nI i) (0 : Int32) = some (nI (gA G i).2.2.1) := at_ok h hi (c := 0) (by decide)
theorem g_1 (h : GrC G go ga) (hi : i < G.length) : mX1_at go ga (nI i) (1 : Int32) = some (nI (gA G i).2.2.2.1) := at_ok h hi (c := 1) (by decide)
theorem g_2 (h : GrC G go ga) (hi : i < G.length) : mX1_at go ga (nI i) (2 : Int32) = some (cov (gA G i).2.2.1 (gA G i).2.2.2.1) := at_ok h hi (c := 2) (by decide)
theorem g_3 (h : GrC G go ga) (hi : i < G.length) : mX1_at go ga (nI i) (3 : Int32) = some (nI (gA G i).2.1) := at_ok h hi (c := 3) (by decide)
theorem g_4 (h : GrC G go ga) (hi : i < G.length) : mX1_at go ga (nI i) (4 : Int32) = some (nI (gA G i).1) := at_ok h hi (c := 4) (by decide)
theorem g_5 (h : GrC G go ga) (hi : i < G.length) : mX1_at go ga (nI i) (5 : Int32) = some (nI (gA G i).2.2.2.2) := at_ok h hi (c := 5) (by decide)
theorem r_0 (h : RtC R ro ra) (hi : i < R.length) : mX1_at ro ra (nI i) (0 : Int32) = some (nI (rA R i).1) := at_ok h hi (c := 0) (by decide)
theorem r_1 (h : RtC R ro ra) (hi : i < R.length) : mX1_at ro ra (nI i) (1 : Int32) = some (nI (rA R i).2.1) := at_ok h hi (c := 1) (by decide)
theorem r_2 (h : RtC R ro ra) (hi : i < R.length) : mX1_at ro ra (nI i) (2 : Int32) = some (cov (rA R i).1 (rA R i).2.1) := at_ok h hi (c := 2) (by decide)
theorem r_3 (h : RtC R ro ra) (hi : i < R.length) : mX1_at ro ra (nI i) (3 : Int32) = some (nI (rA R i).2.2) := at_ok h hi (c := 3) (by decide)
theorem s_1 (h : SeC S so sa) (hi : i < S.length) : mX1_at so sa (nI i) (1 : Int32) = some (nI (qA S i).2.1) := at_ok h hi (c := 1) (by decide)
theorem s_2 (h : SeC S so sa) (hi : i < S.length) : mX1_at so sa (nI i) (2 : Int32) = some (cov (qA S i).1 (qA S i).2.1) := at_ok h hi (c := 2) (by decide)
theorem s_3 (h : SeC S so sa) (hi : i < S.length) : mX1_at so sa (nI i) (3 : Int32) = some (nI (qA S i).2.2.1) := at_ok h hi (c := 3) (by decide)
theorem s_4 (h : SeC S so sa) (hi : i < S.length) : mX1_at so sa (nI i) (4 : Int32) = some (nI (qA S i).2.2.2) := at_ok h hi (c := 4) (by decide)
theorem PapC.n (h : PapC P po pa) : P.length ≤ 6 := h.2.1
theorem GrC.n (h : GrC G go ga) : G.length ≤ 8 := h.2.1
theorem RtC.n (h : RtC R ro ra) : R.length ≤ 7 := h.2.1
theorem SeC.n (h : SeC S so sa) : S.length ≤ 6 := h.2.1
theorem msk1 {p : Nat → Bool} (h : p 0 = true) : msk p 1 = 1 := by
  rw [msk_s, if_pos h]
  show (0 : Int32) ||| (1 : Int32) <<< (nI 0 &&& 31) = 1
  decide
/-- PAPERS that STAND, if just those of gone are REVOKED -/
theorem standing_l (hP : PLok P) (h : PapC P po pa) (gone : Int32) {day : Nat} (hd : bo.2.2 = nI day) (hday : day < 2 ^ 31) : ∀ (m i : Nat), 0 < i → i ≤ P.length → P.length - i < m → mX0_standing_b4 bo po pa gone m (msk (stB P gone day) i) (nI i) = some (msk (stB P gone day) P.length) := by
  intro m
  induction m with
  | zero => intro i h0 h1 h2; omega
  | succ m ih =>
    intro i h0 h1 h2
    have hn := h.n
    rw [mX0_standing_b4, h.cnt]
    by_cases hi : i < P.length
    · have hv := hP.2.2.2 i h0 hi
      have ih' := ih (i + 1) (by omega) hi (by omega)
      have hs := stB_s hP gone day h0 hi
      unfold okP at hs
      rw [if_neg (nI_ge hi (by omega)), p_3 h hi, if_neg (by omega)]
      simp only [Option.bind_some, bnd]
      rw [mbit, p_4 h hi, if_neg (by omega), mbit, p_2 h hi, p_2 h (by omega), bi_msk _ (by omega) (by omega)]
      simp only [Option.bind_some]
      rw [wi_c (hP.rg hi) (hP.rg (by omega)), hd, nI_1, decide_eq_true hv.1, Bool.true_and]
      simp only [Option.bind_some, b2i_0, b2i_1, nI_ltI (show (pA P i).2.2.2 < 2 ^ 31 by omega) hday]
      rw [msk_s, hs] at ih'
      cases c1 : bi gone i
      · by_cases c2 : (pA P i).2.2.2 < day
        · simp only [c1, if_true, if_pos c2]
          simpa [c1, Nat.not_le.mpr c2] using ih'
        · simp only [c1, if_true, if_neg c2]
          cases c3 : stB P gone day (pA P i).1
          · simpa [c1, c3] using ih'
          · cases c4 : wi (pA P i).2.1 (pA P i).2.2.1 (pA P (pA P i).1).2.1 (pA P (pA P i).1).2.2.1
            · simpa [c1, c3, c4] using ih'
            · simpa [c1, c3, c4, Nat.not_lt.mp c2] using ih'
      · simpa [c1] using ih'
    · have : i = P.length := by omega
      subst this
      rw [if_pos (nI_le (Nat.le_refl _) (by omega))]
theorem standing_ok (hP : PLok P) (h : PapC P po pa) (gone : Int32) {day : Nat} (hd : bo.2.2 = nI day) (hday : day < 2 ^ 31) : mX0_standing bo po pa gone = some (msk (stB P gone day) P.length) := by
  unfold mX0_standing
  have := standing_l hP h gone hd hday FU 1 (by decide) hP.1 (by have := h.n; rw [FU_eq]; omega)
  rw [msk1 (stB_0 P gone day)] at this
  exact this
/-- GRANTS that COUNT, if just those PAPERS STAND -/
theorem counting_l (hP : PLok P) (hG : ∀ k, k < G.length → gOk P.length (gA G k)) (h : PapC P po pa) (g : GrC G go ga) (st : Nat → Bool) {aside : Int32} (hd : bo.2.1 = aside) : ∀ (m i : Nat), i ≤ G.length → G.length - i < m → mX0_counting_b4 bo go ga po pa (msk st P.length) m (msk (fun k => cnB P st aside (gA G k)) i) (nI i) = some (msk (fun k => cnB P st aside (gA G k)) G.length) := by
  intro m
  induction m with
  | zero => intro i h1 h2; omega
  | succ m ih =>
    intro i h1 h2
    have hn := g.n
    have hn2 := h.n
    rw [mX0_counting_b4, g.cnt]
    by_cases hi : i < G.length
    · obtain ⟨v1, v2, v3, v4, v5⟩ := hG i hi
      have ih' := ih (i + 1) hi (by omega)
      rw [msk_s] at ih'
      rw [if_neg (nI_ge hi (by omega)), g_4 g hi, nI_1]
      simp only [Option.bind_some, bnd]
      by_cases c1 : (gA G i).1 = 9
      · rw [if_pos (by rw [c1]; rfl)]
        have : cnB P st aside (gA G i) = true := by unfold cnB; simp [c1]
        simpa [this] using ih'
      · have hlt : (gA G i).1 < P.length := by omega
        rw [if_neg (show ¬ nI (gA G i).1 = (9 : Int32) from fun e => c1 ((nI_eq (b := 9) (by omega) (by decide)).mp e)), mbit, g_2 g hi, p_2 h hlt, g_3 g hi, bi_msk _ (by omega) (by omega)]
        simp only [Option.bind_some]
        rw [mbit, wi_c v3 (hP.rg hlt), hd, decide_eq_true hlt, Bool.true_and]
        simp only [Option.bind_some, b2i_0, b2i_1]
        cases c2 : st (gA G i).1
        · have : cnB P st aside (gA G i) = false := by unfold cnB; simp [c1, c2]
          simpa [this] using ih'
        · cases c3 : wi (gA G i).2.2.1 (gA G i).2.2.2.1 (pA P (gA G i).1).2.1 (pA P (gA G i).1).2.2.1
          · have : cnB P st aside (gA G i) = false := by unfold cnB; simp [c1, c3]
            simpa [this] using ih'
          · cases c4 : bi aside (gA G i).2.1
            · have : cnB P st aside (gA G i) = true := by unfold cnB; simp [c2, c3, c4]
              simpa [this, c4] using ih'
            · have : cnB P st aside (gA G i) = false := by unfold cnB; simp [c1, c4]
              simpa [this, c4] using ih'
    · have : i = G.length := by omega
      subst this
      rw [if_pos (nI_le (Nat.le_refl _) (by omega))]
theorem counting_ok (hP : PLok P) (hG : ∀ k, k < G.length → gOk P.length (gA G k)) (h : PapC P po pa) (g : GrC G go ga) (st : Nat → Bool) {aside : Int32} (hd : bo.2.1 = aside) : mX0_counting bo go ga po pa (msk st P.length) = some (msk (fun k => cnB P st aside (gA G k)) G.length) := by
  unfold mX0_counting
  exact counting_l hP hG h g st hd FU 0 (Nat.zero_le _) (by have := g.n; rw [FU_eq]; omega)
/-- the state of a RANGE with an ORIGIN, if just those GRANTS COUNT -/
theorem stateOf_l (hG : ∀ k, k < G.length → rgOk (gA G k).2.2.1 (gA G k).2.2.2.1 ∧ (gA G k).2.1 < 6 ∧ (gA G k).2.2.2.2 ≤ 5) (g : GrC G go ga) {s l o : Nat} (hr : rgOk s l) (ho : o < 6) (c : Int32) : ∀ (m i : Nat) (b : Bool), i ≤ G.length → G.length - i < m → anyB (fun k => bi c k && rgtB G s l o k) i = false → b = !anyB (fun k => bi c k && winB G s l k) i → mX0_stateOf_b6 go ga (cov s l) (nI l) (nI o) c m b (nI i) = some (nI (stS (bi c) G s l o G.length)) := by
  intro m
  induction m with
  | zero => intro i b h1 h2; omega
  | succ m ih =>
    intro i b h1 h2 h3 h4
    have hn := g.n
    have hl := hr.1
    rw [mX0_stateOf_b6, g.cnt]
    by_cases hi : i < G.length
    · obtain ⟨v1, v2, v3⟩ := hG i hi
      rw [if_neg (nI_ge hi (by omega)), mbit, g_2 g hi, g_3 g hi, g_5 g hi, nI_1]
      simp only [Option.bind_some]
      rw [wi_c hr v1]
      simp only [Option.bind_some, b2i_1]
      cases c1 : bi c i
      · have := ih (i + 1) b hi (by omega) (by rw [anyB_s, h3, c1]; rfl) (by rw [anyB_s, h4, c1]; simp)
        simpa using this
      · cases c2 : wi s l (gA G i).2.2.1 (gA G i).2.2.2.1
        · have := ih (i + 1) b hi (by omega) (by rw [anyB_s, h3, c1]; simp [rgtB, winB, c2]) (by rw [anyB_s, h4, c1]; simp [winB, c2])
          simpa using this
        · simp only [if_true, nI_eq (show (gA G i).2.1 < 2 ^ 31 by omega) (show o < 2 ^ 31 by omega), nI_ltI (show (gA G i).2.2.2.2 < 2 ^ 31 by omega) (show l < 2 ^ 31 by omega)]
          by_cases c3 : (gA G i).2.1 = o
          · rw [if_pos c3]
            by_cases c4 : (gA G i).2.2.2.2 < l
            · rw [if_pos c4]
              exact ih (i + 1) false hi (by omega) (by rw [anyB_s, h3, c1]; simp [rgtB, winB, c2, c3, c4]) (by rw [anyB_s, c1]; simp [winB, c2])
            · rw [if_neg c4]
              have : anyB (fun k => bi c k && rgtB G s l o k) G.length = true := anyB_t hi (by simp [c1, rgtB, winB, c2, c3]; omega)
              unfold stS
              rw [if_pos this]
              rfl
          · rw [if_neg c3]
            exact ih (i + 1) false hi (by omega) (by rw [anyB_s, h3, c1]; simp [rgtB, winB, c2, c3]) (by rw [anyB_s, c1]; simp [winB, c2])
    · have : i = G.length := by omega
      subst this
      rw [if_pos (nI_le (Nat.le_refl _) (by omega))]
      unfold stS
      rw [h3, h4]
      cases anyB (fun k => bi c k && winB G s l k) G.length <;> rfl
theorem stateOf_ok (hG : ∀ k, k < G.length → rgOk (gA G k).2.2.1 (gA G k).2.2.2.1 ∧ (gA G k).2.1 < 6 ∧ (gA G k).2.2.2.2 ≤ 5) (g : GrC G go ga) {s l o : Nat} (hr : rgOk s l) (ho : o < 6) (c : Int32) : mX0_stateOf go ga (cov s l) (nI l) (nI o) c = some (nI (stS (bi c) G s l o G.length)) := by
  unfold mX0_stateOf
  exact stateOf_l hG g hr ho c FU 0 true (Nat.zero_le _) (by have := g.n; rw [FU_eq]; omega) rfl rfl
/-- ROUTES of a state, if just those GRANTS COUNT -/
theorem routesThat_l (hG : ∀ k, k < G.length → rgOk (gA G k).2.2.1 (gA G k).2.2.2.1 ∧ (gA G k).2.1 < 6 ∧ (gA G k).2.2.2.2 ≤ 5) (hR : ∀ k, k < R.length → rOk (rA R k)) (g : GrC G go ga) (r : RtC R ro ra) (w c : Int32) : ∀ (m i : Nat), i ≤ R.length → R.length - i < m → mX0_routesThatAre_b5 ro ra go ga w c m (msk (fun k => decide (nI (stS (bi c) G (rA R k).1 (rA R k).2.1 (rA R k).2.2 G.length) = w)) i) (nI i) = some (msk (fun k => decide (nI (stS (bi c) G (rA R k).1 (rA R k).2.1 (rA R k).2.2 G.length) = w)) R.length) := by
  intro m
  induction m with
  | zero => intro i h1 h2; omega
  | succ m ih =>
    intro i h1 h2
    have hn := r.n
    rw [mX0_routesThatAre_b5, r.cnt]
    by_cases hi : i < R.length
    · have ih' := ih (i + 1) hi (by omega)
      rw [msk_s] at ih'
      rw [if_neg (nI_ge hi (by omega)), r_1 r hi, r_2 r hi, r_3 r hi, nI_1]
      simp only [Option.bind_some, bnd]
      rw [stateOf_ok hG g (hR i hi).1 (hR i hi).2]
      simp only [Option.bind_some]
      by_cases c1 : nI (stS (bi c) G (rA R i).1 (rA R i).2.1 (rA R i).2.2 G.length) = w
      · rw [if_pos c1]
        rw [decide_eq_true c1, if_pos rfl] at ih'
        exact ih'
      · rw [if_neg c1]
        rw [decide_eq_false c1, if_neg (by decide)] at ih'
        exact ih'
    · have : i = R.length := by omega
      subst this
      rw [if_pos (nI_le (Nat.le_refl _) (by omega))]
theorem routesThat_ok (hG : ∀ k, k < G.length → rgOk (gA G k).2.2.1 (gA G k).2.2.2.1 ∧ (gA G k).2.1 < 6 ∧ (gA G k).2.2.2.2 ≤ 5) (hR : ∀ k, k < R.length → rOk (rA R k)) (g : GrC G go ga) (r : RtC R ro ra) (w c : Int32) : mX0_routesThatAre ro ra go ga w c = some (msk (fun k => decide (nI (stS (bi c) G (rA R k).1 (rA R k).2.1 (rA R k).2.2 G.length) = w)) R.length) := by
  unfold mX0_routesThatAre
  exact routesThat_l hG hR g r w c FU 0 (Nat.zero_le _) (by have := r.n; rw [FU_eq]; omega)
end CB
