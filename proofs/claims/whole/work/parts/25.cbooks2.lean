/-! the class's books, on -/
/-- what counts of a book's grants -/
def cnK (P : List PN) (G : List GN) (rev aside : Int32) (day : Nat) (k : Nat) : Bool := cnB P (stB P rev day) aside (gA G k)
/-- the states of routes, by the grants of a set -/
def qS (c : Nat → Bool) (G : List GN) (R : List RN) (k : Nat) : Nat := stS c G (rA R k).1 (rA R k).2.1 (rA R k).2.2 G.length
theorem qS_lt (c : Nat → Bool) (G : List GN) (R : List RN) (k : Nat) : qS c G R k < 3 := stS_lt _ _ _ _ _ _
theorem qS_cong {c d : Nat → Bool} {G : List GN} {R : List RN} (h : ∀ k, k < G.length → c k = d k) (k : Nat) : qS c G R k = qS d G R k := stS_cong _ _ _ _ h
/-- two routes have a place in common -/
def mt (R : List RN) (r o : Nat) : Bool := wi (rA R r).1 (rA R r).2.1 (rA R o).1 (rA R o).2.1 || wi (rA R o).1 (rA R o).2.1 (rA R r).1 (rA R r).2.1
def inB (q : Nat → Nat) (R : List RN) (law r : Nat) : Bool :=
  if law = 0 then true else if law = 1 then !decide (q r = 0) else if law = 2 then decide (q r = 2) else decide (q r = 2) || (decide (q r = 1) && !anyB (fun o => decide (q o = 2) && mt R r o) R.length)
/-- of those that c lets in the longest, of like ones the first -/
def goB (c : Nat → Bool) (len : Nat → Nat) : Nat → Option Nat
  | 0 => none
  | n + 1 => if c n = true ∧ (∀ b, goB c len n = some b → len b < len n) then some n else goB c len n
def enc : Option Nat → Int32
  | none => -9
  | some b => nI b
/-- the paper with the least range -/
def mkB (c : Nat → Bool) (len : Nat → Nat) : Nat → Nat
  | 0 => 0
  | n + 1 => if c n = true ∧ len (mkB c len n) < len n then n else mkB c len n
section CB2
variable {P : List PN} {G : List GN} {R : List RN} {S : List SN} {po go ro so bo : I3} {pa ga ra sa : Ar} {i : Nat}
theorem countingNow_ok (hP : PLok P) (hG : ∀ k, k < G.length → gOk P.length (gA G k)) (h : PapC P po pa) (g : GrC G go ga) {rev aside : Int32} {day : Nat} (hb : bo = (rev, aside, nI day)) (hday : day < 2 ^ 31) : mX0_countingNow bo po pa go ga = some (msk (cnK P G rev aside day) G.length) := by
  subst hb
  unfold mX0_countingNow
  rw [standing_ok hP h rev (bo := (rev, aside, nI day)) rfl hday]
  simp only [Option.bind_some]
  rw [counting_ok hP hG h g (stB P rev day) (bo := (rev, aside, nI day)) rfl]
  simp only [Option.bind_some]
  rfl
theorem gOk.v {np : Nat} {G : List GN} (h : ∀ k, k < G.length → gOk np (gA G k)) : ∀ k, k < G.length → rgOk (gA G k).2.2.1 (gA G k).2.2.2.1 ∧ (gA G k).2.1 < 6 ∧ (gA G k).2.2.2.2 ≤ 5 := fun k hk => ⟨(h k hk).2.2.1, (h k hk).2.1, (h k hk).2.2.2.2⟩
theorem msk_bi {c : Nat → Bool} {n : Nat} (hn : n ≤ 30) : ∀ k, k < n → bi (msk c n) k = c k := fun k hk => by rw [bi_msk _ hn (by omega), decide_eq_true hk, Bool.true_and]
theorem dec2 {q : Nat} (h : q < 3) (w : Nat) (hw : w < 2 ^ 31) : decide (nI q = nI w) = decide (q = w) := by
  by_cases e : q = w
  · rw [decide_eq_true e, decide_eq_true (by rw [e])]
  · rw [decide_eq_false e, decide_eq_false (fun z => e ((nI_eq (by omega) hw).mp z))]
/-- ROUTES of a state by a set of GRANTS -/
theorem those_c (hG : ∀ k, k < G.length → rgOk (gA G k).2.2.1 (gA G k).2.2.2.1 ∧ (gA G k).2.1 < 6 ∧ (gA G k).2.2.2.2 ≤ 5) (hR : ∀ k, k < R.length → rOk (rA R k)) (g : GrC G go ga) (r : RtC R ro ra) (c : Nat → Bool) (x : Int32) (hx : ∀ k, k < G.length → bi x k = c k) (w : Nat) (hw : w < 2 ^ 31) : mX0_routesThatAre ro ra go ga (nI w) x = some (msk (fun k => decide (qS c G R k = w)) R.length) := by
  rw [routesThat_ok hG hR g r]
  congr 1
  refine msk_cong (fun k hk => ?_)
  rw [stS_cong (d := c) G _ _ _ hx]
  exact dec2 (stS_lt _ _ _ _ _ _) w hw
theorem apart2 (hR : ∀ k, k < R.length → rOk (rA R k)) (r : RtC R ro ra) (some_ T : Int32) : ∀ (m i : Nat), i ≤ R.length → R.length - i < m → mX0_apartFrom_b52 ro ra some_ T m (msk (fun k => bi some_ k && decide ((cov (rA R k).1 (rA R k).2.1 &&& T) = 0)) i) (nI i) = some (msk (fun k => bi some_ k && decide ((cov (rA R k).1 (rA R k).2.1 &&& T) = 0)) R.length) := by
  intro m
  induction m with
  | zero => intro i h1 h2; omega
  | succ m ih =>
    intro i h1 h2
    have hn := r.n
    rw [mX0_apartFrom_b52, r.cnt]
    by_cases hi : i < R.length
    · have ih' := ih (i + 1) hi (by omega)
      rw [msk_s] at ih'
      rw [if_neg (nI_ge hi (by omega)), mbit, r_2 r hi, nI_1]
      simp only [Option.bind_some, bnd, b2i_1]
      cases c1 : bi some_ i
      · simpa [c1] using ih'
      · by_cases c2 : (cov (rA R i).1 (rA R i).2.1 &&& T) = 0
        · simpa [c1, c2] using ih'
        · simpa [c1, c2] using ih'
    · have : i = R.length := by omega
      subst this
      rw [if_pos (nI_le (Nat.le_refl _) (by omega))]
theorem apart1 (hR : ∀ k, k < R.length → rOk (rA R k)) (r : RtC R ro ra) (right some_ : Int32) : ∀ (m i : Nat) (T : Int32), i ≤ R.length → R.length - i < m → (∀ p, p < 32 → bi T p = anyB (fun o => bi right o && bi (cov (rA R o).1 (rA R o).2.1) p) i) → ∃ T', (∀ p, p < 32 → bi T' p = anyB (fun o => bi right o && bi (cov (rA R o).1 (rA R o).2.1) p) R.length) ∧ mX0_apartFrom_b5 ro ra right some_ m T (nI i) = mX0_apartFrom_b52 ro ra some_ T' FU (0 : Int32) (0 : Int32) := by
  intro m
  induction m with
  | zero => intro i T h1 h2; omega
  | succ m ih =>
    intro i T h1 h2 h3
    have hn := r.n
    rw [mX0_apartFrom_b5, r.cnt]
    by_cases hi : i < R.length
    · rw [if_neg (nI_ge hi (by omega)), mbit, r_2 r hi, nI_1]
      simp only [Option.bind_some, b2i_1]
      cases c1 : bi right i
      · obtain ⟨T', k1, k2⟩ := ih (i + 1) T hi (by omega) (fun p hp => by rw [anyB_s, h3 p hp, c1, Bool.false_and, Bool.or_false])
        exact ⟨T', k1, by simpa using k2⟩
      · obtain ⟨T', k1, k2⟩ := ih (i + 1) (T ||| cov (rA R i).1 (rA R i).2.1) hi (by omega) (fun p hp => by rw [anyB_s, bi_or _ _ hp, h3 p hp, c1, Bool.true_and])
        exact ⟨T', k1, by simpa using k2⟩
    · have : i = R.length := by omega
      subst this
      rw [if_pos (nI_le (Nat.le_refl _) (by omega))]
      exact ⟨T, h3, rfl⟩
theorem meet0 (hR : ∀ k, k < R.length → rOk (rA R k)) {right T : Int32} {k : Nat} (hk : k < R.length) (h : ∀ p, p < 32 → bi T p = anyB (fun o => bi right o && bi (cov (rA R o).1 (rA R o).2.1) p) R.length) : decide ((cov (rA R k).1 (rA R k).2.1 &&& T) = 0) = !anyB (fun o => bi right o && mt R k o) R.length := by
  by_cases q : (cov (rA R k).1 (rA R k).2.1 &&& T) = 0
  · rw [decide_eq_true q]
    cases e : anyB (fun o => bi right o && mt R k o) R.length with
    | false => rfl
    | true =>
      obtain ⟨o, ho, hp⟩ := anyB_e e
      simp only [Bool.and_eq_true] at hp
      have hm := meet_c (hR k hk).1 (hR o ho).1
      unfold mt at hp
      rw [hp.2] at hm
      have hne : ¬ (cov (rA R k).1 (rA R k).2.1 &&& cov (rA R o).1 (rA R o).2.1) = 0 := by
        intro z
        rw [decide_eq_true z] at hm
        cases hm
      exfalso
      apply hne
      rw [and_eq0] at q ⊢
      intro p hp2 z
      exact q p hp2 ⟨z.1, by rw [h p hp2]; exact anyB_t ho (by simp [hp.1, z.2])⟩
  · rw [decide_eq_false q]
    cases e : anyB (fun o => bi right o && mt R k o) R.length with
    | true => rfl
    | false =>
      exfalso
      apply q
      rw [and_eq0]
      intro p hp z
      rw [h p hp] at z
      obtain ⟨o, ho, hq⟩ := anyB_e z.2
      simp only [Bool.and_eq_true] at hq
      have hm := meet_c (hR k hk).1 (hR o ho).1
      have hne : ¬ (cov (rA R k).1 (rA R k).2.1 &&& cov (rA R o).1 (rA R o).2.1) = 0 := by
        rw [and_eq0]
        intro w
        exact w p hp ⟨z.1, hq.2⟩
      rw [decide_eq_false hne] at hm
      have hmt : mt R k o = true := by
        unfold mt
        cases c : (wi (rA R k).1 (rA R k).2.1 (rA R o).1 (rA R o).2.1 || wi (rA R o).1 (rA R o).2.1 (rA R k).1 (rA R k).2.1)
        · rw [c] at hm; cases hm
        · rfl
      have := anyB_t (p := fun o => bi right o && mt R k o) ho (by simp [hq.1, hmt])
      rw [e] at this
      cases this
/-- ROUTES that a LAW lets in -/
theorem letIn_ok (hP : PLok P) (hG : ∀ k, k < G.length → gOk P.length (gA G k)) (hR : ∀ k, k < R.length → rOk (rA R k)) (h : PapC P po pa) (g : GrC G go ga) (r : RtC R ro ra) {rev aside : Int32} {day : Nat} (hb : bo = (rev, aside, nI day)) (hday : day < 2 ^ 31) {law : Nat} (hl : law < 4) :
    ∃ x, mX0_letIn bo po pa go ga ro ra (nI law) = some x ∧ ∀ k, k < R.length → bi x k = inB (qS (cnK P G rev aside day) G R) R law k := by
  have hn := r.n
  have hg := g.n
  unfold mX0_letIn
  rw [countingNow_ok hP hG h g hb hday]
  simp only [Option.bind_some, bnd]
  rw [show (2 : Int32) = nI 2 from rfl, those_c (gOk.v hG) hR g r (cnK P G rev aside day) _ (msk_bi (by omega)) 2 (by decide)]
  simp only [Option.bind_some]
  rw [show (0 : Int32) = nI 0 from rfl, those_c (gOk.v hG) hR g r (cnK P G rev aside day) _ (msk_bi (by omega)) 0 (by decide)]
  simp only [Option.bind_some]
  rw [r.cnt]
  have ha : ∀ k, k < R.length → bi (((1 : Int32) <<< (nI R.length &&& 31)) - 1) k = true := fun k hk => by rw [bi_all (by omega) (by omega), decide_eq_true hk]
  rcases (show law = 0 ∨ law = 1 ∨ law = 2 ∨ law = 3 by omega) with rfl | rfl | rfl | rfl
  · exact ⟨_, if_pos rfl, fun k hk => ha k hk⟩
  · refine ⟨_, by rw [if_neg (by decide), if_pos (show nI 1 = (1 : Int32) from rfl)], fun k hk => ?_⟩
    rw [bi_and _ _ (by omega), bi_not _ (by omega), ha k hk, msk_bi (by omega) k hk]
    rfl
  · refine ⟨_, by rw [if_neg (by decide), if_neg (by decide), if_pos rfl], fun k hk => ?_⟩
    rw [msk_bi (by omega) k hk]
    rfl
  · rw [if_neg (by decide), if_neg (by decide), if_neg (by decide)]
    obtain ⟨T, hT, e1⟩ := apart1 hR r (msk (fun k => decide (qS (cnK P G rev aside day) G R k = 2)) R.length) ((((1 : Int32) <<< (nI R.length &&& 31)) - 1 &&& (msk (fun k => decide (qS (cnK P G rev aside day) G R k = 2)) R.length ^^^ (-1 : Int32))) &&& (msk (fun k => decide (qS (cnK P G rev aside day) G R k = 0)) R.length ^^^ (-1 : Int32))) FU 0 0 (Nat.zero_le _) (by rw [FU_eq]; omega) (fun p hp => by rw [bi_0 hp]; rfl)
    unfold mX0_apartFrom
    rw [show (0 : Int32) = nI 0 from rfl] at e1 ⊢
    rw [e1]
    have e2 := apart2 hR r ((((1 : Int32) <<< (nI R.length &&& 31)) - 1 &&& (msk (fun k => decide (qS (cnK P G rev aside day) G R k = 2)) R.length ^^^ (-1 : Int32))) &&& (msk (fun k => decide (qS (cnK P G rev aside day) G R k = 0)) R.length ^^^ (-1 : Int32))) T FU 0 (Nat.zero_le _) (by rw [FU_eq]; omega)
    have e3 : msk (fun k => bi ((((1 : Int32) <<< (nI R.length &&& 31)) - 1 &&& (msk (fun k => decide (qS (cnK P G rev aside day) G R k = 2)) R.length ^^^ (-1 : Int32))) &&& (msk (fun k => decide (qS (cnK P G rev aside day) G R k = 0)) R.length ^^^ (-1 : Int32))) k && decide ((cov (rA R k).1 (rA R k).2.1 &&& T) = 0)) 0 = nI 0 := rfl
    rw [e3] at e2
    rw [e2]
    simp only [Option.bind_some]
    refine ⟨_, rfl, fun k hk => ?_⟩
    rw [bi_or _ _ (by omega), msk_bi (by omega) k hk, msk_bi (by omega) k hk, bi_and _ _ (by omega), bi_and _ _ (by omega), bi_not _ (by omega), bi_not _ (by omega), ha k hk, msk_bi (by omega) k hk, msk_bi (by omega) k hk, meet0 hR hk hT]
    have hc : anyB (fun o => bi (msk (fun k => decide (qS (cnK P G rev aside day) G R k = 2)) R.length) o && mt R k o) R.length = anyB (fun o => decide (qS (cnK P G rev aside day) G R o = 2) && mt R k o) R.length := anyB_cong (fun o ho => by rw [msk_bi (by omega) o ho])
    rw [hc]
    have hq := qS_lt (cnK P G rev aside day) G R k
    unfold inB
    rw [if_neg (by decide), if_neg (by decide), if_neg (by decide)]
    rcases (show qS (cnK P G rev aside day) G R k = 0 ∨ qS (cnK P G rev aside day) G R k = 1 ∨ qS (cnK P G rev aside day) G R k = 2 by omega) with e | e | e <;> rw [e] <;> rfl
theorem goB_lt {c : Nat → Bool} {len : Nat → Nat} : ∀ {n b : Nat}, goB c len n = some b → b < n
  | n + 1, b, h => by
    unfold goB at h
    split at h
    · cases h; omega
    · have := goB_lt h; omega
theorem goB_s (c : Nat → Bool) (len : Nat → Nat) (n : Nat) : goB c len (n + 1) = if c n = true ∧ (∀ b, goB c len n = some b → len b < len n) then some n else goB c len n := rfl
theorem goB_cong {c d : Nat → Bool} {len : Nat → Nat} : ∀ {n : Nat}, (∀ k, k < n → c k = d k) → goB c len n = goB d len n
  | 0, _ => rfl
  | n + 1, h => by
    have e := goB_cong (n := n) (len := len) (fun k hk => h k (show k < n + 1 by omega))
    rw [goB_s, goB_s, h n (by omega), e]
/-- by which ROUTE a PLACE GOES -/
theorem routeTo_l (hR : ∀ k, k < R.length → rOk (rA R k)) (r : RtC R ro ra) {p : Nat} (hp : p < 32) (x : Int32) : ∀ (m i : Nat), i ≤ R.length → R.length - i < m → mX0_routeTo_b13 bo po pa go ga ro ra (nI p) x m (enc (goB (fun k => bi x k && wi p 5 (rA R k).1 (rA R k).2.1) (fun k => (rA R k).2.1) i)) (nI i) = some (enc (goB (fun k => bi x k && wi p 5 (rA R k).1 (rA R k).2.1) (fun k => (rA R k).2.1) R.length)) := by
  intro m
  induction m with
  | zero => intro i h1 h2; omega
  | succ m ih =>
    intro i h1 h2
    have hn := r.n
    rw [mX0_routeTo_b13, r.cnt]
    by_cases hi : i < R.length
    · have hv := hR i hi
      have hl := hv.1.1
      have ih' := ih (i + 1) hi (by omega)
      rw [goB_s] at ih'
      rw [if_neg (nI_ge hi (by omega)), mbit, r_2 r hi, nI_1]
      simp only [Option.bind_some, b2i_1]
      rw [mbit, covb hv.1 hp]
      simp only [Option.bind_some, b2i_1]
      cases c1 : bi x i
      · simpa [c1] using ih'
      · cases c2 : wi p 5 (rA R i).1 (rA R i).2.1
        · simpa [c1, c2] using ih'
        · rw [if_pos rfl, if_pos rfl]
          simp only [c1, c2, Bool.and_self, true_and] at ih'
          cases c3 : goB (fun k => bi x k && wi p 5 (rA R k).1 (rA R k).2.1) (fun k => (rA R k).2.1) i with
          | none =>
            rw [c3] at ih'
            rw [if_pos (show enc none = (-9 : Int32) from rfl)]
            rw [if_pos (fun b hb => by cases hb)] at ih'
            exact ih'
          | some b =>
            have hb := goB_lt c3
            have hlb := (hR b (by omega)).1.1
            rw [c3] at ih'
            rw [if_neg (show ¬ enc (some b) = (-9 : Int32) from fun e => absurd (show nI b < 0 by rw [show nI b = (-9 : Int32) from e]; decide) (nI_pos (by omega))), r_1 r hi]
            simp only [Option.bind_some]
            rw [show enc (some b) = nI b from rfl, r_1 r (by omega)]
            simp only [Option.bind_some, nI_leI (show (rA R i).2.1 < 2 ^ 31 by omega) (show (rA R b).2.1 < 2 ^ 31 by omega)]
            by_cases c4 : (rA R i).2.1 ≤ (rA R b).2.1
            · rw [if_pos c4]
              rw [if_neg (fun z => Nat.not_lt.mpr c4 (z b rfl))] at ih'
              exact ih'
            · rw [if_neg c4]
              rw [if_pos (fun b' hb' => by cases hb'; omega)] at ih'
              exact ih'
    · have : i = R.length := by omega
      subst this
      rw [if_pos (nI_le (Nat.le_refl _) (by omega))]
/-- GOES -/
def goS (c : Nat → Bool) (G : List GN) (R : List RN) (law p : Nat) : Option Nat := goB (fun k => inB (qS c G R) R law k && wi p 5 (rA R k).1 (rA R k).2.1) (fun k => (rA R k).2.1) R.length
theorem routeTo_ok (hP : PLok P) (hG : ∀ k, k < G.length → gOk P.length (gA G k)) (hR : ∀ k, k < R.length → rOk (rA R k)) (h : PapC P po pa) (g : GrC G go ga) (r : RtC R ro ra) {rev aside : Int32} {day : Nat} (hb : bo = (rev, aside, nI day)) (hday : day < 2 ^ 31) {law p : Nat} (hl : law < 4) (hp : p < 32) :
    mX0_routeTo bo po pa go ga ro ra (nI p) (nI law) = some (enc (goS (cnK P G rev aside day) G R law p)) := by
  obtain ⟨x, e, hx⟩ := letIn_ok hP hG hR h g r hb hday hl
  have hn := r.n
  unfold mX0_routeTo
  rw [e]
  simp only [Option.bind_some]
  have := routeTo_l (bo := bo) (po := po) (pa := pa) (go := go) (ga := ga) hR r hp x FU 0 (Nat.zero_le _) (by rw [FU_eq]; omega)
  rw [goB_cong (n := R.length) (d := fun k => inB (qS (cnK P G rev aside day) G R) R law k && wi p 5 (rA R k).1 (rA R k).2.1) (fun k hk => by rw [hx k hk])] at this
  exact this
theorem mkB_lt {c : Nat → Bool} {len : Nat → Nat} : ∀ {n : Nat}, 0 < n → mkB c len n < n
  | n + 1, _ => by
    unfold mkB
    split
    · omega
    · by_cases q : n = 0
      · subst q; exact Nat.zero_lt_one
      · have := mkB_lt (c := c) (len := len) (show 0 < n by omega); omega
theorem mkB_s (c : Nat → Bool) (len : Nat → Nat) (n : Nat) : mkB c len (n + 1) = if c n = true ∧ len (mkB c len n) < len n then n else mkB c len n := rfl
theorem mkB_1 (c : Nat → Bool) (len : Nat → Nat) : mkB c len 1 = 0 := by
  rw [mkB_s]
  split <;> rfl
theorem makerOf_l (hP : PLok P) (hR : ∀ k, k < R.length → rOk (rA R k)) (h : PapC P po pa) (r : RtC R ro ra) (st : Nat → Bool) {k : Nat} (hk : k < R.length) : ∀ (m i : Nat), 0 < i → i ≤ P.length → P.length - i < m → mX0_makerOf_b14 bo po pa ro ra (nI k) (msk st P.length) m (nI (mkB (fun q => st q && wi (rA R k).1 (rA R k).2.1 (pA P q).2.1 (pA P q).2.2.1) (fun q => (pA P q).2.2.1) i)) (nI i) = some (nI (mkB (fun q => st q && wi (rA R k).1 (rA R k).2.1 (pA P q).2.1 (pA P q).2.2.1) (fun q => (pA P q).2.2.1) P.length)) := by
  intro m
  induction m with
  | zero => intro i h0 h1 h2; omega
  | succ m ih =>
    intro i h0 h1 h2
    have hn := h.n
    rw [mX0_makerOf_b14, h.cnt]
    by_cases hi : i < P.length
    · have ih' := ih (i + 1) (by omega) hi (by omega)
      have hl := mkB_lt (c := fun q => st q && wi (rA R k).1 (rA R k).2.1 (pA P q).2.1 (pA P q).2.2.1) (len := fun q => (pA P q).2.2.1) h0
      rw [mkB_s] at ih'
      have g1 := (hP.rg hi).1
      have g2 := (hP.rg (show mkB (fun q => st q && wi (rA R k).1 (rA R k).2.1 (pA P q).2.1 (pA P q).2.2.1) (fun q => (pA P q).2.2.1) i < P.length by omega)).1
      rw [if_neg (nI_ge hi (by omega)), mbit, msk_bi (by omega) i hi, r_2 r hk, p_2 h hi, p_1 h hi, p_1 h (by omega), nI_1]
      simp only [Option.bind_some]
      rw [wi_c (hR k hk).1 (hP.rg hi)]
      simp only [Option.bind_some, b2i_1, nI_leI (show (pA P i).2.2.1 < 2 ^ 31 by omega) (show (pA P (mkB (fun q => st q && wi (rA R k).1 (rA R k).2.1 (pA P q).2.1 (pA P q).2.2.1) (fun q => (pA P q).2.2.1) i)).2.2.1 < 2 ^ 31 by omega)]
      cases c1 : st i
      · simpa [c1] using ih'
      · cases c2 : wi (rA R k).1 (rA R k).2.1 (pA P i).2.1 (pA P i).2.2.1
        · simpa [c1, c2] using ih'
        · simp only [c1, c2, Bool.and_self, true_and, if_true] at ih' ⊢
          by_cases c3 : (pA P i).2.2.1 ≤ (pA P (mkB (fun q => st q && wi (rA R k).1 (rA R k).2.1 (pA P q).2.1 (pA P q).2.2.1) (fun q => (pA P q).2.2.1) i)).2.2.1
          · rw [if_pos c3]
            rw [if_neg (Nat.not_lt.mpr c3)] at ih'
            exact ih'
          · rw [if_neg c3]
            rw [if_pos (Nat.not_le.mp c3)] at ih'
            exact ih'
    · have : i = P.length := by omega
      subst this
      rw [if_pos (nI_le (Nat.le_refl _) (by omega))]
/-- MAKER -/
def mkS (P : List PN) (rev : Int32) (day s l : Nat) : Nat := mkB (fun q => stB P rev day q && wi s l (pA P q).2.1 (pA P q).2.2.1) (fun q => (pA P q).2.2.1) P.length
theorem makerOf_ok (hP : PLok P) (hR : ∀ k, k < R.length → rOk (rA R k)) (h : PapC P po pa) (r : RtC R ro ra) {rev aside : Int32} {day : Nat} (hb : bo = (rev, aside, nI day)) (hday : day < 2 ^ 31) {k : Nat} (hk : k < R.length) : mX0_makerOf bo po pa ro ra (nI k) = some (nI (mkS P rev day (rA R k).1 (rA R k).2.1)) := by
  subst hb
  have hn := h.n
  unfold mX0_makerOf
  rw [standing_ok hP h rev (bo := (rev, aside, nI day)) rfl hday]
  simp only [Option.bind_some]
  have := makerOf_l (bo := (rev, aside, nI day)) hP hR h r (stB P rev day) hk FU 1 (by decide) hP.1 (by rw [FU_eq]; omega)
  rw [mkB_1] at this
  exact this
/-- BARE -/
def bareS (c : Nat → Bool) (G : List GN) : Nat := cnt (fun p => !anyB (fun g => c g && wi p 5 (gA G g).2.2.1 (gA G g).2.2.2.1) G.length) 32
theorem bare_l (hG : ∀ k, k < G.length → rgOk (gA G k).2.2.1 (gA G k).2.2.2.1 ∧ (gA G k).2.1 < 6 ∧ (gA G k).2.2.2.2 ≤ 5) (g : GrC G go ga) (x : Int32) : ∀ (m i : Nat) (T : Int32), i ≤ G.length → G.length - i < m → (∀ p, p < 32 → bi T p = anyB (fun k => bi x k && wi p 5 (gA G k).2.2.1 (gA G k).2.2.2.1) i) → mX0_bare_b9 bo po pa go ga x m T (nI i) = some (nI (bareS (bi x) G)) := by
  intro m
  induction m with
  | zero => intro i T h1 h2; omega
  | succ m ih =>
    intro i T h1 h2 h3
    have hn := g.n
    rw [mX0_bare_b9, g.cnt]
    by_cases hi : i < G.length
    · rw [if_neg (nI_ge hi (by omega)), mbit, g_2 g hi, nI_1]
      simp only [Option.bind_some, b2i_1]
      cases c1 : bi x i
      · have := ih (i + 1) T hi (by omega) (fun p hp => by rw [anyB_s, h3 p hp, c1, Bool.false_and, Bool.or_false])
        simpa using this
      · have := ih (i + 1) (T ||| cov (gA G i).2.2.1 (gA G i).2.2.2.1) hi (by omega) (fun p hp => by rw [anyB_s, bi_or _ _ hp, h3 p hp, c1, Bool.true_and, covb (hG i hi).1 hp])
        simpa using this
    · have : i = G.length := by omega
      subst this
      rw [if_pos (nI_le (Nat.le_refl _) (by omega)), bitCount_ok]
      simp only [Option.bind_some]
      unfold bareS
      rw [cnt_cong (fun p hp => by rw [bi_not _ hp, h3 p hp])]
theorem bareS_cong {c d : Nat → Bool} {G : List GN} (h : ∀ k, k < G.length → c k = d k) : bareS c G = bareS d G := by
  unfold bareS
  exact cnt_cong (fun p hp => by rw [anyB_cong (fun k hk => by rw [h k hk])])
theorem bare_ok (hP : PLok P) (hG : ∀ k, k < G.length → gOk P.length (gA G k)) (h : PapC P po pa) (g : GrC G go ga) {rev aside : Int32} {day : Nat} (hb : bo = (rev, aside, nI day)) (hday : day < 2 ^ 31) : mX0_bare bo po pa go ga = some (nI (bareS (cnK P G rev aside day) G)) := by
  have hn := g.n
  unfold mX0_bare
  rw [countingNow_ok hP hG h g hb hday]
  simp only [Option.bind_some]
  have := bare_l (bo := bo) (po := po) (pa := pa) (gOk.v hG) g (msk (cnK P G rev aside day) G.length) FU 0 0 (Nat.zero_le _) (by rw [FU_eq]; omega) (fun p hp => by rw [bi_0 hp]; rfl)
  rw [bareS_cong (msk_bi (by omega))] at this
  exact this
/-- all that is SEEN is so -/
def agB (c : Nat → Bool) (G : List GN) (S : List SN) (n : Nat) : Bool := !anyB (fun k => !decide (stS c G (qA S k).1 (qA S k).2.1 (qA S k).2.2.1 G.length = (qA S k).2.2.2)) n
def sOk (q : SN) : Prop := rgOk q.1 q.2.1 ∧ q.2.2.1 < 6 ∧ q.2.2.2 < 3
theorem agrees_l (hG : ∀ k, k < G.length → rgOk (gA G k).2.2.1 (gA G k).2.2.2.1 ∧ (gA G k).2.1 < 6 ∧ (gA G k).2.2.2.2 ≤ 5) (hS : ∀ k, k < S.length → sOk (qA S k)) (g : GrC G go ga) (s : SeC S so sa) (x : Int32) : ∀ (m i : Nat), i ≤ S.length → S.length - i < m → agB (bi x) G S i = true → mX0_agreesWith_b7 bo po pa go ga so sa x m (nI i) = some (agB (bi x) G S S.length) := by
  intro m
  induction m with
  | zero => intro i h1 h2; omega
  | succ m ih =>
    intro i h1 h2 h3
    have hn := s.n
    rw [mX0_agreesWith_b7, s.cnt]
    by_cases hi : i < S.length
    · obtain ⟨v1, v2, v3⟩ := hS i hi
      rw [if_neg (nI_ge hi (by omega)), s_1 s hi, s_2 s hi, s_3 s hi, s_4 s hi, nI_1]
      simp only [Option.bind_some]
      rw [stateOf_ok hG g v1 v2]
      simp only [Option.bind_some, nI_eq (show stS (bi x) G (qA S i).1 (qA S i).2.1 (qA S i).2.2.1 G.length < 2 ^ 31 by have := stS_lt (bi x) G (qA S i).1 (qA S i).2.1 (qA S i).2.2.1 G.length; omega) (show (qA S i).2.2.2 < 2 ^ 31 by omega)]
      by_cases c1 : stS (bi x) G (qA S i).1 (qA S i).2.1 (qA S i).2.2.1 G.length = (qA S i).2.2.2
      · rw [if_pos c1]
        refine ih (i + 1) hi (by omega) ?_
        unfold agB at h3 ⊢
        rw [anyB_s, decide_eq_true c1]
        simpa using h3
      · rw [if_neg c1]
        unfold agB
        rw [anyB_t hi (by rw [decide_eq_false c1]; rfl)]
        rfl
    · have : i = S.length := by omega
      subst this
      rw [if_pos (nI_le (Nat.le_refl _) (by omega)), h3]
theorem agB_cong {c d : Nat → Bool} {G : List GN} {S : List SN} (h : ∀ k, k < G.length → c k = d k) (n : Nat) : agB c G S n = agB d G S n := by
  unfold agB
  rw [anyB_cong (fun k hk => by rw [stS_cong G _ _ _ h])]
theorem agrees_ok (hP : PLok P) (hG : ∀ k, k < G.length → gOk P.length (gA G k)) (hS : ∀ k, k < S.length → sOk (qA S k)) (h : PapC P po pa) (g : GrC G go ga) (s : SeC S so sa) {rev aside : Int32} {day : Nat} (hb : bo = (rev, aside, nI day)) (hday : day < 2 ^ 31) : mX0_agreesWith bo po pa go ga so sa = some (agB (cnK P G rev aside day) G S S.length) := by
  have hn := g.n
  have hn2 := s.n
  unfold mX0_agreesWith
  rw [countingNow_ok hP hG h g hb hday]
  simp only [Option.bind_some]
  have := agrees_l (bo := bo) (po := po) (pa := pa) (gOk.v hG) hS g s (msk (cnK P G rev aside day) G.length) FU 0 (Nat.zero_le _) (by rw [FU_eq]; omega) rfl
  rw [agB_cong (msk_bi (by omega))] at this
  exact this
end CB2
