/-! the reference's row of numbers: what it answers -/
def RowR (G : List GN) (R : List RN) (rev aside : Int32) (day : Nat) (f : Nat → Int32) : Prop :=
  G.length ≤ 8 ∧ R.length ≤ 7 ∧ f 0 = nI G.length ∧ (∀ i, i < G.length → f (1 + 5 * i) = nI (gA G i).1 ∧ f (1 + 5 * i + 1) = nI (gA G i).2.1 ∧ f (1 + 5 * i + 2) = nI (gA G i).2.2.1 ∧ f (1 + 5 * i + 3) = nI (gA G i).2.2.2.1 ∧ f (1 + 5 * i + 4) = nI (gA G i).2.2.2.2) ∧
  f 41 = nI R.length ∧ (∀ i, i < R.length → f (42 + 3 * i) = nI (rA R i).1 ∧ f (42 + 3 * i + 1) = nI (rA R i).2.1 ∧ f (42 + 3 * i + 2) = nI (rA R i).2.2) ∧ f 63 = rev ∧ f 64 = aside ∧ f 65 = nI day
def PapR (P : List PN) (f : Nat → Int32) : Prop := ∀ i, i < P.length → f (4 * i) = nI (pA P i).1 ∧ f (4 * i + 1) = nI (pA P i).2.1 ∧ f (4 * i + 2) = nI (pA P i).2.2.1 ∧ f (4 * i + 3) = nI (pA P i).2.2.2
section RF
variable {P : List PN} {G : List GN} {R : List RN} {S : List SN} {rev aside : Int32} {day : Nat} {f w : Nat → Int32}
theorem stands_f (m : Nat) (v : Int32) : mX4_stands_b5 f w (m + 1) false v = some false := by
  rw [mX4_stands_b5]
  split
  · rfl
  · rfl
theorem stands_l (hP : PLok P) (h : PapR P f) (hr : RowR G R rev aside day w) (hday : day < 2 ^ 31) : ∀ (m p : Nat), p < P.length → p < m → mX4_stands_b5 f w m true (nI p) = some (stB P rev day p) := by
  intro m
  induction m with
  | zero => intro p h1 h2; omega
  | succ m ih =>
    intro p h1 h2
    have hn := hP.2.1
    rw [mX4_stands_b5]
    by_cases h0 : p = 0
    · subst h0
      rw [if_pos (show nI 0 ≤ (0 : Int32) by decide), stB_0]
    · obtain ⟨m, rfl⟩ : ∃ k, m = k + 1 := ⟨m - 1, by omega⟩
      have hv := hP.2.2.2 p (by omega) h1
      obtain ⟨a1, a2, a3, a4⟩ := h p h1
      obtain ⟨b1, b2, b3, b4⟩ := h (pA P p).1 (by omega)
      have hs := stB_s hP rev day (show 0 < p by omega) h1
      have g1 := hP.rg h1
      have g2 := hP.rg (show (pA P p).1 < P.length by omega)
      unfold okP at hs
      rw [if_neg (nI_nle (by omega) (by omega)), if_pos rfl]
      simp only [L1, L2, L3, L4, L63, L65, pk_mul, nI_add]
      rw [rd_ok rfl (by omega) (by decide), a1, rd_ok rfl (by decide) (by decide), hr.2.2.2.2.2.2.1, mhas]
      simp only [Option.bind_some, nI_add, pk_mul]
      rw [hs]
      cases c1 : bi rev p
      · rw [if_neg (by decide), rd_ok rfl (by decide) (by decide), hr.2.2.2.2.2.2.2.2, rd_ok rfl (by omega) (by decide), a4]
        simp only [nI_ltI (show (pA P p).2.2.2 < 2 ^ 31 by omega) hday]
        by_cases c2 : (pA P p).2.2.2 < day
        · rw [if_pos c2, rd_ok rfl (by omega) (by decide), stands_f, decide_eq_false (by omega)]
          rfl
        · rw [if_neg c2, rd_ok rfl (by omega) (by decide), a2, rd_ok rfl (by omega) (by decide), a3, rd_ok rfl (by omega) (by decide), b2, rd_ok rfl (by omega) (by decide), b3, wi_r g1.2.1 g1.1 g2.2.1 g2.1]
          simp only [Option.bind_some]
          rw [decide_eq_true (by omega)]
          cases c3 : wi (pA P p).2.1 (pA P p).2.2.1 (pA P (pA P p).1).2.1 (pA P (pA P p).1).2.2.1
          · rw [if_neg (by decide), rd_ok rfl (by omega) (by decide), stands_f]
            rfl
          · rw [if_pos rfl, rd_ok rfl (by omega) (by decide), a1, ih _ (by omega) (by omega)]
            rfl
      · rw [if_pos rfl, rd_ok rfl (by omega) (by decide), stands_f]
        rfl
theorem stands_r (hP : PLok P) (h : PapR P f) (hr : RowR G R rev aside day w) (hday : day < 2 ^ 31) {p : Nat} (hp : p < P.length) : mX4_stands f w (nI p) = some (stB P rev day p) := by
  unfold mX4_stands
  exact stands_l hP h hr hday FU p hp (by have := hP.2.1; rw [FU_eq]; omega)
theorem counts_r (hP : PLok P) (hG : ∀ k, k < G.length → gOk P.length (gA G k)) (h : PapR P f) (hr : RowR G R rev aside day w) (hday : day < 2 ^ 31) {g : Nat} (hg : g < G.length) : mX4_counts w f (nI g) = some (cnK P G rev aside day g) := by
  have hn := hP.2.1
  obtain ⟨n1, n2, z0, zg, z41, zr, z63, z64, z65⟩ := id hr
  obtain ⟨a1, a2, a3, a4, a5⟩ := zg g hg
  obtain ⟨v1, v2, v3, v4, v5⟩ := hG g hg
  unfold mX4_counts
  simp only [L1, L2, L3, L4, L5, L64, pk_mul, nI_add]
  rw [rd_ok rfl (by omega) (by decide), a1]
  unfold cnK cnB
  by_cases c1 : (gA G g).1 = 9
  · rw [if_pos (by rw [c1]; rfl), decide_eq_true c1, Bool.true_or]
  · have hlt : (gA G g).1 < P.length := by omega
    obtain ⟨b1, b2, b3, b4⟩ := h (gA G g).1 hlt
    have g2 := hP.rg hlt
    rw [if_neg (show ¬ nI (gA G g).1 = (9 : Int32) from fun e => c1 ((nI_eq (b := 9) (by omega) (by decide)).mp e)), stands_r hP h hr hday hlt, decide_eq_false c1, Bool.false_or]
    simp only [Option.bind_some, pk_mul, nI_add]
    cases c2 : stB P rev day (gA G g).1
    · rfl
    · rw [if_pos rfl, rd_ok rfl (by omega) (by decide), a3, rd_ok rfl (by omega) (by decide), a4, rd_ok rfl (by omega) (by decide), b2, rd_ok rfl (by omega) (by decide), b3, wi_r v3.2.1 v3.1 g2.2.1 g2.1]
      simp only [Option.bind_some]
      cases c3 : wi (gA G g).2.2.1 (gA G g).2.2.2.1 (pA P (gA G g).1).2.1 (pA P (gA G g).1).2.2.1
      · rfl
      · rw [if_pos rfl, rd_ok rfl (by decide) (by decide), z64, rd_ok rfl (by omega) (by decide), a2, mhas]
        simp only [Option.bind_some]
        cases bi aside (gA G g).2.1 <;> rfl
theorem stS_step (c : Nat → Bool) (G : List GN) (s l o i : Nat) : stS c G s l o (i + 1) = if stS c G s l o i = 2 then 2 else if (c i && rgtB G s l o i) = true then 2 else if (c i && winB G s l i) = true then 0 else stS c G s l o i := by
  unfold stS
  rw [anyB_s, anyB_s]
  cases anyB (fun k => c k && rgtB G s l o k) i <;> cases (c i && rgtB G s l o i) <;> cases anyB (fun k => c k && winB G s l k) i <;> cases (c i && winB G s l i) <;> rfl
theorem stateBy_l (hP : PLok P) (hG : ∀ k, k < G.length → gOk P.length (gA G k)) (h : PapR P f) (hr : RowR G R rev aside day w) (hday : day < 2 ^ 31) {s l o : Nat} (hv : rgOk s l) (ho : o < 6) (x : Int32) : ∀ (m i : Nat), i ≤ G.length → G.length - i < m → mX4_stateBy_b6 w f (nI s) (nI l) (nI o) x m (nI (stS (fun k => bi x k && cnK P G rev aside day k) G s l o i)) (nI i) = some (nI (stS (fun k => bi x k && cnK P G rev aside day k) G s l o G.length)) := by
  obtain ⟨n1, n2, z0, zg, z41, zr, z63, z64, z65⟩ := id hr
  intro m
  induction m with
  | zero => intro i h1 h2; omega
  | succ m ih =>
    intro i h1 h2
    have hl := hv.1
    have hlt := stS_lt (fun k => bi x k && cnK P G rev aside day k) G s l o i
    rw [mX4_stateBy_b6]
    simp only [L0, L1, L2, L3, L4, L5, pk_mul, nI_add]
    rw [rd_ok rfl (by decide) (by decide), z0]
    by_cases hi : i < G.length
    · obtain ⟨a1, a2, a3, a4, a5⟩ := zg i hi
      obtain ⟨v1, v2, v3, v4, v5⟩ := hG i hi
      have ih' := ih (i + 1) hi (by omega)
      rw [stS_step] at ih'
      rw [if_neg (nI_ge hi (by omega)), mhas, counts_r hP hG h hr hday hi]
      simp only [Option.bind_some, nI_leI (show 2 < 2 ^ 31 by decide) (show stS (fun k => bi x k && cnK P G rev aside day k) G s l o i < 2 ^ 31 by omega)]
      cases c1 : bi x i
      · simp only [c1, Bool.false_and, if_false, Bool.false_eq_true] at ih' ⊢
        by_cases c0 : stS (fun k => bi x k && cnK P G rev aside day k) G s l o i = 2
        · rw [if_pos c0] at ih'
          rw [c0]
          exact ih'
        · rw [if_neg c0] at ih'
          exact ih'
      · rw [if_pos rfl]
        by_cases c0 : stS (fun k => bi x k && cnK P G rev aside day k) G s l o i = 2
        · rw [if_pos (by omega)]
          rw [if_pos c0] at ih'
          rw [c0]
          exact ih'
        · rw [if_neg (by omega)]
          rw [if_neg c0] at ih'
          simp only [c1, Bool.true_and] at ih'
          cases c2 : cnK P G rev aside day i
          · simp only [c2, Bool.false_and, if_false, Bool.false_eq_true] at ih' ⊢
            exact ih'
          · simp only [c2, Bool.true_and] at ih'
            rw [if_pos rfl, rd_ok rfl (by omega) (by decide), a3, rd_ok rfl (by omega) (by decide), a4, wi_r hv.2.1 hv.1 v3.2.1 v3.1]
            simp only [Option.bind_some]
            cases c3 : wi s l (gA G i).2.2.1 (gA G i).2.2.2.1
            · simp only [rgtB, winB, c3, Bool.false_and, if_false, Bool.false_eq_true] at ih' ⊢
              exact ih'
            · simp only [rgtB, winB, c3, Bool.true_and, if_true] at ih' ⊢
              rw [rd_ok rfl (by omega) (by decide), a2]
              simp only [nI_eq (show (gA G i).2.1 < 2 ^ 31 by omega) (show o < 2 ^ 31 by omega)]
              by_cases c4 : (gA G i).2.1 = o
              · rw [if_pos c4, rd_ok rfl (by omega) (by decide), a5]
                simp only [nI_ltI (show (gA G i).2.2.2.2 < 2 ^ 31 by omega) (show l < 2 ^ 31 by omega)]
                by_cases c5 : (gA G i).2.2.2.2 < l
                · rw [if_pos c5]
                  rw [if_neg (by simp [c4, c5])] at ih'
                  exact ih'
                · rw [if_neg c5]
                  rw [if_pos (by simp [c4]; omega)] at ih'
                  exact ih'
              · rw [if_neg c4]
                rw [if_neg (by simp [c4])] at ih'
                exact ih'
    · have : i = G.length := by omega
      subst this
      rw [if_pos (nI_le (Nat.le_refl _) (by omega))]
theorem stateBy_r (hP : PLok P) (hG : ∀ k, k < G.length → gOk P.length (gA G k)) (h : PapR P f) (hr : RowR G R rev aside day w) (hday : day < 2 ^ 31) {s l o : Nat} (hv : rgOk s l) (ho : o < 6) (x : Int32) : mX4_stateBy w f (nI s) (nI l) (nI o) x = some (nI (stS (fun k => bi x k && cnK P G rev aside day k) G s l o G.length)) := by
  unfold mX4_stateBy
  exact stateBy_l hP hG h hr hday hv ho x FU 0 (Nat.zero_le _) (by have := hr.1; rw [FU_eq]; omega)
theorem stateOf_r (hP : PLok P) (hG : ∀ k, k < G.length → gOk P.length (gA G k)) (h : PapR P f) (hr : RowR G R rev aside day w) (hday : day < 2 ^ 31) {s l o : Nat} (hv : rgOk s l) (ho : o < 6) : mX4_stateOf w f (nI s) (nI l) (nI o) = some (nI (stS (cnK P G rev aside day) G s l o G.length)) := by
  have hn := hr.1
  unfold mX4_stateOf
  rw [stateBy_r hP hG h hr hday hv ho]
  simp only [Option.bind_some]
  rw [stS_cong (d := cnK P G rev aside day) G s l o (fun k hk => by rw [bi_255 (by omega), Bool.true_and])]
theorem routeState_r (hP : PLok P) (hG : ∀ k, k < G.length → gOk P.length (gA G k)) (hR : ∀ k, k < R.length → rOk (rA R k)) (h : PapR P f) (hr : RowR G R rev aside day w) (hday : day < 2 ^ 31) {k : Nat} (hk : k < R.length) : mX4_routeState w f (nI k) = some (nI (qS (cnK P G rev aside day) G R k)) := by
  obtain ⟨n1, n2, z0, zg, z41, zr, z63, z64, z65⟩ := id hr
  obtain ⟨a1, a2, a3⟩ := zr k hk
  unfold mX4_routeState
  simp only [L1, L2, L3, L42, pk_mul, nI_add]
  rw [rd_ok rfl (by omega) (by decide), a1, rd_ok rfl (by omega) (by decide), a2, rd_ok rfl (by omega) (by decide), a3, stateOf_r hP hG h hr hday (hR k hk).1 (hR k hk).2]
  simp only [Option.bind_some]
  rfl
theorem or0 (x : Int32) : x ||| 0 = x := by
  refine b_ext (fun i _ => ?_)
  rw [b_or, b_0, Bool.or_false]
theorem those_l (hP : PLok P) (hG : ∀ k, k < G.length → gOk P.length (gA G k)) (hR : ∀ k, k < R.length → rOk (rA R k)) (h : PapR P f) (hr : RowR G R rev aside day w) (hday : day < 2 ^ 31) (q : Nat) (hq : q < 2 ^ 31) : ∀ (m i : Nat), i ≤ R.length → R.length - i < m → mX4_those_b5 w f (nI q) m (msk (fun k => decide (qS (cnK P G rev aside day) G R k = q)) i) (nI i) = some (msk (fun k => decide (qS (cnK P G rev aside day) G R k = q)) R.length) := by
  obtain ⟨n1, n2, z0, zg, z41, zr, z63, z64, z65⟩ := id hr
  intro m
  induction m with
  | zero => intro i h1 h2; omega
  | succ m ih =>
    intro i h1 h2
    rw [mX4_those_b5, L41, rd_ok rfl (by decide) (by decide), z41]
    by_cases hi : i < R.length
    · have ih' := ih (i + 1) hi (by omega)
      have hlt := qS_lt (cnK P G rev aside day) G R i
      rw [msk_s] at ih'
      rw [if_neg (nI_ge hi (by omega)), routeState_r hP hG hR h hr hday hi, nI_1, or0]
      simp only [Option.bind_some, nI_eq (show qS (cnK P G rev aside day) G R i < 2 ^ 31 by omega) hq]
      by_cases c1 : qS (cnK P G rev aside day) G R i = q
      · rw [if_pos c1]
        rw [decide_eq_true c1, if_pos rfl] at ih'
        exact ih'
      · rw [if_neg c1]
        rw [decide_eq_false c1, if_neg (by decide)] at ih'
        exact ih'
    · have : i = R.length := by omega
      subst this
      rw [if_pos (nI_le (Nat.le_refl _) (by omega))]
theorem those_r (hP : PLok P) (hG : ∀ k, k < G.length → gOk P.length (gA G k)) (hR : ∀ k, k < R.length → rOk (rA R k)) (h : PapR P f) (hr : RowR G R rev aside day w) (hday : day < 2 ^ 31) (q : Nat) (hq : q < 2 ^ 31) : mX4_those w f (nI q) = some (msk (fun k => decide (qS (cnK P G rev aside day) G R k = q)) R.length) := by
  unfold mX4_those
  exact those_l hP hG hR h hr hday q hq FU 0 (Nat.zero_le _) (by have := hr.2.1; rw [FU_eq]; omega)
end RF
