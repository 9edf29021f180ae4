/-! the reference, on -/
section RF2
variable {P : List PN} {G : List GN} {R : List RN} {S : List SN} {rev aside : Int32} {day : Nat} {f w : Nat → Int32}
theorem meet_r (hR : ∀ k, k < R.length → rOk (rA R k)) (hr : RowR G R rev aside day w) {r o : Nat} (h1 : r < R.length) (h2 : o < R.length) : mX4_meet w (nI r) (nI o) = some (mt R r o) := by
  obtain ⟨n1, n2, z0, zg, z41, zr, z63, z64, z65⟩ := id hr
  obtain ⟨a1, a2, a3⟩ := zr r h1
  obtain ⟨b1, b2, b3⟩ := zr o h2
  have g1 := (hR r h1).1
  have g2 := (hR o h2).1
  unfold mX4_meet
  simp only [L1, L2, L3, L42, pk_mul, nI_add]
  rw [rd_ok rfl (by omega) (by decide), a1, rd_ok rfl (by omega) (by decide), a2, rd_ok rfl (by omega) (by decide), b1, rd_ok rfl (by omega) (by decide), b2, wi_r g1.2.1 g1.1 g2.2.1 g2.1]
  simp only [Option.bind_some]
  unfold mt
  cases c1 : wi (rA R r).1 (rA R r).2.1 (rA R o).1 (rA R o).2.1
  · rw [if_neg (by decide), rd_ok rfl (by omega) (by decide), b1, rd_ok rfl (by omega) (by decide), b2, rd_ok rfl (by omega) (by decide), a1, rd_ok rfl (by omega) (by decide), a2, wi_r g2.2.1 g2.1 g1.2.1 g1.1]
    simp only [Option.bind_some]
    cases wi (rA R o).1 (rA R o).2.1 (rA R r).1 (rA R r).2.1 <;> rfl
  · rfl
theorem isIn_f (hr : RowR G R rev aside day w) (r v : Int32) : ∀ (m i : Nat), i ≤ R.length → R.length - i < m → mX4_isIn_b55 w f r v m false (nI i) = some false := by
  obtain ⟨n1, n2, z0, zg, z41, zr, z63, z64, z65⟩ := id hr
  intro m
  induction m with
  | zero => intro i h1 h2; omega
  | succ m ih =>
    intro i h1 h2
    rw [mX4_isIn_b55, L41, rd_ok rfl (by decide) (by decide), z41]
    by_cases hi : i < R.length
    · rw [if_neg (nI_ge hi (by omega)), nI_1, if_neg (by decide)]
      exact ih (i + 1) hi (by omega)
    · have : i = R.length := by omega
      subst this
      rw [if_pos (nI_le (Nat.le_refl _) (by omega))]
theorem isIn_l (hP : PLok P) (hG : ∀ k, k < G.length → gOk P.length (gA G k)) (hR : ∀ k, k < R.length → rOk (rA R k)) (h : PapR P f) (hr : RowR G R rev aside day w) (hday : day < 2 ^ 31) {r q : Nat} (hr1 : r < R.length) (hq : q < 3) : ∀ (m i : Nat), i ≤ R.length → R.length - i < m → (q = 2 ∨ anyB (fun o => decide (qS (cnK P G rev aside day) G R o = 2) && mt R r o) i = false) → mX4_isIn_b55 w f (nI r) (nI q) m true (nI i) = some (decide (q = 2) || !anyB (fun o => decide (qS (cnK P G rev aside day) G R o = 2) && mt R r o) R.length) := by
  obtain ⟨n1, n2, z0, zg, z41, zr, z63, z64, z65⟩ := id hr
  intro m
  induction m with
  | zero => intro i h1 h2; omega
  | succ m ih =>
    intro i h1 h2 h3
    rw [mX4_isIn_b55, L41, rd_ok rfl (by decide) (by decide), z41]
    by_cases hi : i < R.length
    · have hlt := qS_lt (cnK P G rev aside day) G R i
      rw [if_neg (nI_ge hi (by omega)), nI_1, if_pos rfl, L2, routeState_r hP hG hR h hr hday hi, meet_r hR hr hr1 hi]
      simp only [Option.bind_some, nI_eq (show q < 2 ^ 31 by omega) (show 2 < 2 ^ 31 by decide), nI_eq (show qS (cnK P G rev aside day) G R i < 2 ^ 31 by omega) (show 2 < 2 ^ 31 by decide)]
      by_cases c0 : q = 2
      · rw [if_pos c0]
        exact ih (i + 1) hi (by omega) (Or.inl c0)
      · rw [if_neg c0]
        have h4 := h3.resolve_left c0
        by_cases c1 : qS (cnK P G rev aside day) G R i = 2
        · rw [if_pos c1]
          cases c2 : mt R r i
          · rw [if_neg (by decide)]
            exact ih (i + 1) hi (by omega) (Or.inr (by rw [anyB_s, h4, c2]; simp))
          · rw [if_pos rfl, isIn_f hr _ _ m (i + 1) hi (by omega), decide_eq_false c0, anyB_t hi (by rw [decide_eq_true c1, c2]; rfl)]
            rfl
        · rw [if_neg c1]
          exact ih (i + 1) hi (by omega) (Or.inr (by rw [anyB_s, h4, decide_eq_false c1]; simp))
    · have : i = R.length := by omega
      subst this
      rw [if_pos (nI_le (Nat.le_refl _) (by omega))]
      rcases h3 with h3 | h3
      · rw [decide_eq_true h3, Bool.true_or]
      · rw [h3, Bool.not_false, Bool.or_true]
theorem isIn_r (hP : PLok P) (hG : ∀ k, k < G.length → gOk P.length (gA G k)) (hR : ∀ k, k < R.length → rOk (rA R k)) (h : PapR P f) (hr : RowR G R rev aside day w) (hday : day < 2 ^ 31) {r law : Nat} (hr1 : r < R.length) (hl : law < 4) : mX4_isIn w f (nI r) (nI law) = some (inB (qS (cnK P G rev aside day) G R) R law r) := by
  have n2 := hr.2.1
  have hq := qS_lt (cnK P G rev aside day) G R r
  unfold mX4_isIn inB
  rw [routeState_r hP hG hR h hr hday hr1]
  simp only [Option.bind_some]
  generalize hqe : qS (cnK P G rev aside day) G R r = q at hq ⊢
  rcases (show law = 0 ∨ law = 1 ∨ law = 2 ∨ law = 3 by omega) with rfl | rfl | rfl | rfl
  · rw [if_neg (by decide), if_pos (show nI 0 = (0 : Int32) from rfl), if_pos rfl]
  · rw [if_neg (show ¬ (3 : Int32) ≤ nI 1 by decide), if_neg (show ¬ nI 1 = (0 : Int32) by decide)]
    rcases (show q = 0 ∨ q = 1 ∨ q = 2 by omega) with rfl | rfl | rfl <;> rfl
  · rw [if_neg (show ¬ (3 : Int32) ≤ nI 2 by decide), if_neg (show ¬ nI 2 = (0 : Int32) by decide)]
    rcases (show q = 0 ∨ q = 1 ∨ q = 2 by omega) with rfl | rfl | rfl <;> rfl
  · rw [if_pos (show (3 : Int32) ≤ nI 3 by decide), if_neg (show ¬ (3 : Nat) = 0 by decide), if_neg (show ¬ (3 : Nat) = 1 by decide), if_neg (show ¬ (3 : Nat) = 2 by decide)]
    by_cases c0 : q = 0
    · subst c0
      rw [if_pos (show nI 0 ≤ (0 : Int32) by decide)]
      have := isIn_f (f := f) hr (nI r) (nI 0) FU 0 (Nat.zero_le _) (by rw [FU_eq]; omega)
      rw [show nI 0 = (0 : Int32) from rfl] at this ⊢
      rw [this]
      rfl
    · rw [if_neg (nI_nle (by omega) (by omega))]
      have := isIn_l hP hG hR h hr hday hr1 hq FU 0 (Nat.zero_le _) (by rw [FU_eq]; omega) (Or.inr rfl)
      rw [show nI 0 = (0 : Int32) from rfl] at this
      rw [this]
      rcases (show q = 1 ∨ q = 2 by omega) with rfl | rfl
      · simp
      · simp
theorem goesOf_l (hP : PLok P) (hG : ∀ k, k < G.length → gOk P.length (gA G k)) (hR : ∀ k, k < R.length → rOk (rA R k)) (h : PapR P f) (hr : RowR G R rev aside day w) (hday : day < 2 ^ 31) {p law : Nat} (hp : p < 32) (hl : law < 4) : ∀ (m i : Nat) (v : Int32), i ≤ R.length → R.length - i < m →
    (goB (fun k => inB (qS (cnK P G rev aside day) G R) R law k && wi p 5 (rA R k).1 (rA R k).2.1) (fun k => (rA R k).2.1) i = none → v = -1) →
    (∀ b, goB (fun k => inB (qS (cnK P G rev aside day) G R) R law k && wi p 5 (rA R k).1 (rA R k).2.1) (fun k => (rA R k).2.1) i = some b → v = nI (rA R b).2.1) →
    mX4_goesOf_b10 w f (nI p) (nI law) m (enc (goB (fun k => inB (qS (cnK P G rev aside day) G R) R law k && wi p 5 (rA R k).1 (rA R k).2.1) (fun k => (rA R k).2.1) i)) v (nI i) = some (enc (goS (cnK P G rev aside day) G R law p)) := by
  obtain ⟨n1, n2, z0, zg, z41, zr, z63, z64, z65⟩ := id hr
  intro m
  induction m with
  | zero => intro i v h1 h2; omega
  | succ m ih =>
    intro i v h1 h2 h3 h4
    rw [mX4_goesOf_b10]
    simp only [L1, L3, L41, L42, pk_mul, nI_add]
    rw [rd_ok rfl (by decide) (by decide), z41]
    by_cases hi : i < R.length
    · obtain ⟨a1, a2, a3⟩ := zr i hi
      have g1 := (hR i hi).1
      have hlen : (rA R i).2.1 < 6 := g1.1
      rw [if_neg (nI_ge hi (by omega)), rd_ok rfl (by omega) (by decide), a1, rd_ok rfl (by omega) (by decide), a2, show (5 : Int32) = nI 5 from rfl, wi_r hp (by decide) g1.2.1 g1.1]
      simp only [Option.bind_some]
      have ihn : (¬ (inB (qS (cnK P G rev aside day) G R) R law i = true ∧ wi p 5 (rA R i).1 (rA R i).2.1 = true ∧ ∀ b, goB (fun k => inB (qS (cnK P G rev aside day) G R) R law k && wi p 5 (rA R k).1 (rA R k).2.1) (fun k => (rA R k).2.1) i = some b → (rA R b).2.1 < (rA R i).2.1)) → mX4_goesOf_b10 w f (nI p) (nI law) m (enc (goB (fun k => inB (qS (cnK P G rev aside day) G R) R law k && wi p 5 (rA R k).1 (rA R k).2.1) (fun k => (rA R k).2.1) i)) v (nI (i + 1)) = some (enc (goS (cnK P G rev aside day) G R law p)) := by
        intro hne
        have e : goB (fun k => inB (qS (cnK P G rev aside day) G R) R law k && wi p 5 (rA R k).1 (rA R k).2.1) (fun k => (rA R k).2.1) (i + 1) = goB (fun k => inB (qS (cnK P G rev aside day) G R) R law k && wi p 5 (rA R k).1 (rA R k).2.1) (fun k => (rA R k).2.1) i := by
          rw [goB_s, if_neg]
          intro z
          simp only [Bool.and_eq_true] at z
          exact hne ⟨z.1.1, z.1.2, z.2⟩
        rw [← e]
        exact ih (i + 1) v hi (by omega) (by rw [e]; exact h3) (by rw [e]; exact h4)
      cases c1 : wi p 5 (rA R i).1 (rA R i).2.1
      · rw [if_neg (by decide)]
        exact ihn (fun z => by rw [c1] at z; cases z.2.1)
      · rw [if_pos rfl, rd_ok rfl (by omega) (by decide), a2]
        by_cases c2 : nI (rA R i).2.1 ≤ v
        · rw [if_pos c2]
          refine ihn (fun z => ?_)
          cases c3 : goB (fun k => inB (qS (cnK P G rev aside day) G R) R law k && wi p 5 (rA R k).1 (rA R k).2.1) (fun k => (rA R k).2.1) i with
          | none =>
            rw [h3 c3] at c2
            have : nI (rA R i).2.1 < 0 := Int32.lt_of_le_of_lt c2 (by decide)
            exact nI_pos (by omega) this
          | some b =>
            rw [h4 b c3] at c2
            have hb := goB_lt c3
            have hlb : (rA R b).2.1 < 6 := (hR b (by omega)).1.1
            rw [nI_leI (by omega) (by omega)] at c2
            have := z.2.2 b c3
            omega
        · rw [if_neg c2, isIn_r hP hG hR h hr hday hi hl]
          simp only [Option.bind_some]
          cases c3 : inB (qS (cnK P G rev aside day) G R) R law i
          · rw [if_neg (by decide)]
            exact ihn (fun z => by rw [c3] at z; cases z.1)
          · rw [if_pos rfl, rd_ok rfl (by omega) (by decide), a2]
            have e : goB (fun k => inB (qS (cnK P G rev aside day) G R) R law k && wi p 5 (rA R k).1 (rA R k).2.1) (fun k => (rA R k).2.1) (i + 1) = some i := by
              rw [goB_s, if_pos]
              refine ⟨by rw [c3, c1]; rfl, fun b hb => ?_⟩
              have hb2 := goB_lt hb
              have hlb : (rA R b).2.1 < 6 := (hR b (by omega)).1.1
              rw [h4 b hb, nI_leI (by omega) (by omega)] at c2
              omega
            have := ih (i + 1) (nI (rA R i).2.1) hi (by omega) (by rw [e]; intro z; cases z) (by rw [e]; intro b hb; cases hb; rfl)
            rw [e] at this
            exact this
    · have : i = R.length := by omega
      subst this
      rw [if_pos (nI_le (Nat.le_refl _) (by omega))]
      rfl
theorem goesOf_r (hP : PLok P) (hG : ∀ k, k < G.length → gOk P.length (gA G k)) (hR : ∀ k, k < R.length → rOk (rA R k)) (h : PapR P f) (hr : RowR G R rev aside day w) (hday : day < 2 ^ 31) {p law : Nat} (hp : p < 32) (hl : law < 4) : mX4_goesOf w f (nI p) (nI law) = some (enc (goS (cnK P G rev aside day) G R law p)) := by
  unfold mX4_goesOf
  exact goesOf_l hP hG hR h hr hday hp hl FU 0 (-1) (Nat.zero_le _) (by have := hr.2.1; rw [FU_eq]; omega) (fun _ => rfl) (fun b hb => by cases hb)
abbrev MO : Type := Int32 × Int32 × Int32 × Int32 × Int32 × Int32 × Int32 × Int32 × Int32 × Int64
theorem makerOf_rl (hP : PLok P) (hR : ∀ k, k < R.length → rOk (rA R k)) (h : PapR P f) (hr : RowR G R rev aside day w) (hday : day < 2 ^ 31) {t : MO} (ht : t.2.1 = nI P.length) {k : Nat} (hk : k < R.length) : ∀ (m i : Nat), 0 < i → i ≤ P.length → P.length - i < m → mX4_makerOf_b12 t f w (nI (42 + 3 * k)) m (nI (mkB (fun q => stB P rev day q && wi (rA R k).1 (rA R k).2.1 (pA P q).2.1 (pA P q).2.2.1) (fun q => (pA P q).2.2.1) i)) (nI i) = some (nI (mkS P rev day (rA R k).1 (rA R k).2.1)) := by
  obtain ⟨n1, n2, z0, zg, z41, zr, z63, z64, z65⟩ := id hr
  have hn := hP.2.1
  obtain ⟨a1, a2, a3⟩ := zr k hk
  have g1 := (hR k hk).1
  intro m
  induction m with
  | zero => intro i h0 h1 h2; omega
  | succ m ih =>
    intro i h0 h1 h2
    rw [mX4_makerOf_b12, ht]
    by_cases hi : i < P.length
    · have ih' := ih (i + 1) (by omega) hi (by omega)
      have hl := mkB_lt (c := fun q => stB P rev day q && wi (rA R k).1 (rA R k).2.1 (pA P q).2.1 (pA P q).2.2.1) (len := fun q => (pA P q).2.2.1) h0
      rw [mkB_s] at ih'
      obtain ⟨b1, b2, b3, b4⟩ := h i hi
      obtain ⟨d1, d2, d3, d4⟩ := h (mkB (fun q => stB P rev day q && wi (rA R k).1 (rA R k).2.1 (pA P q).2.1 (pA P q).2.2.1) (fun q => (pA P q).2.2.1) i) (by omega)
      have g2 := hP.rg hi
      have g3 := (hP.rg (show mkB (fun q => stB P rev day q && wi (rA R k).1 (rA R k).2.1 (pA P q).2.1 (pA P q).2.2.1) (fun q => (pA P q).2.2.1) i < P.length by omega)).1
      have hg2 := g2.1
      have hf : ∀ k12 : Int32 → Int32 → Option Int32, mX4_makerOf_b81 k12 t f w (nI (42 + 3 * k)) (nI (mkB (fun q => stB P rev day q && wi (rA R k).1 (rA R k).2.1 (pA P q).2.1 (pA P q).2.2.1) (fun q => (pA P q).2.2.1) i)) (nI i) false = k12 (nI (mkB (fun q => stB P rev day q && wi (rA R k).1 (rA R k).2.1 (pA P q).2.1 (pA P q).2.2.1) (fun q => (pA P q).2.2.1) i)) (nI (i + 1)) := by
        intro k12
        unfold mX4_makerOf_b81
        rw [if_neg (by decide), nI_1]
      have ht' : ∀ k12 : Int32 → Int32 → Option Int32, mX4_makerOf_b81 k12 t f w (nI (42 + 3 * k)) (nI (mkB (fun q => stB P rev day q && wi (rA R k).1 (rA R k).2.1 (pA P q).2.1 (pA P q).2.2.1) (fun q => (pA P q).2.2.1) i)) (nI i) true = if (pA P i).2.2.1 ≤ (pA P (mkB (fun q => stB P rev day q && wi (rA R k).1 (rA R k).2.1 (pA P q).2.1 (pA P q).2.2.1) (fun q => (pA P q).2.2.1) i)).2.2.1 then k12 (nI (mkB (fun q => stB P rev day q && wi (rA R k).1 (rA R k).2.1 (pA P q).2.1 (pA P q).2.2.1) (fun q => (pA P q).2.2.1) i)) (nI (i + 1)) else k12 (nI i) (nI (i + 1)) := by
        intro k12
        unfold mX4_makerOf_b81
        rw [if_pos rfl]
        simp only [L1, L2, L4, pk_mul, nI_add]
        rw [rd_ok rfl (by omega) (by decide), b3, rd_ok rfl (by omega) (by decide), d3]
        simp only [nI_leI (show (pA P i).2.2.1 < 2 ^ 31 by omega) (show (pA P (mkB (fun q => stB P rev day q && wi (rA R k).1 (rA R k).2.1 (pA P q).2.1 (pA P q).2.2.1) (fun q => (pA P q).2.2.1) i)).2.2.1 < 2 ^ 31 by omega)]
      rw [if_neg (nI_ge hi (by omega)), stands_r hP h hr hday hi]
      simp only [Option.bind_some, L1, L2, L4, pk_mul, nI_add]
      rw [hf, ht']
      cases c1 : stB P rev day i
      · rw [if_neg (by decide)]
        simpa [c1] using ih'
      · rw [if_pos rfl, rd_ok rfl (by omega) (by decide), a1, rd_ok rfl (by omega) (by decide), a2, rd_ok rfl (by omega) (by decide), b2, rd_ok rfl (by omega) (by decide), b3, wi_r g1.2.1 g1.1 g2.2.1 g2.1]
        simp only [Option.bind_some]
        cases c2 : wi (rA R k).1 (rA R k).2.1 (pA P i).2.1 (pA P i).2.2.1
        · rw [if_neg (by decide)]
          simpa [c1, c2] using ih'
        · rw [if_pos rfl]
          simp only [c1, c2, Bool.and_self, true_and] at ih'
          by_cases c3 : (pA P i).2.2.1 ≤ (pA P (mkB (fun q => stB P rev day q && wi (rA R k).1 (rA R k).2.1 (pA P q).2.1 (pA P q).2.2.1) (fun q => (pA P q).2.2.1) i)).2.2.1
          · rw [if_pos c3]
            rw [if_neg (Nat.not_lt.mpr c3)] at ih'
            exact ih'
          · rw [if_neg c3]
            rw [if_pos (Nat.not_le.mp c3)] at ih'
            exact ih'
    · have : i = P.length := by omega
      subst this
      rw [if_pos (nI_le (Nat.le_refl _) (by omega))]
      rfl
theorem makerOf_r (hP : PLok P) (hR : ∀ k, k < R.length → rOk (rA R k)) (h : PapR P f) (hr : RowR G R rev aside day w) (hday : day < 2 ^ 31) {t : MO} (ht : t.2.1 = nI P.length) {k : Nat} (hk : k < R.length) : mX4_makerOf t f w (nI k) = some (nI (mkS P rev day (rA R k).1 (rA R k).2.1)) := by
  have hn := hP.2.1
  unfold mX4_makerOf
  have := makerOf_rl hP hR h hr hday ht hk FU 1 (by decide) hP.1 (by rw [FU_eq]; omega)
  rw [mkB_1] at this
  rw [L42, L3, pk_mul, nI_add]
  exact this
theorem standing_rl (hP : PLok P) (h : PapR P f) (hr : RowR G R rev aside day w) (hday : day < 2 ^ 31) {t : MO} (ht : t.2.1 = nI P.length) : ∀ (m i : Nat), i ≤ P.length → P.length - i < m → mX4_standing_b4 t f w m (msk (stB P rev day) i) (nI i) = some (msk (stB P rev day) P.length) := by
  have hn := hP.2.1
  intro m
  induction m with
  | zero => intro i h1 h2; omega
  | succ m ih =>
    intro i h1 h2
    rw [mX4_standing_b4, ht]
    by_cases hi : i < P.length
    · have ih' := ih (i + 1) hi (by omega)
      rw [msk_s] at ih'
      rw [if_neg (nI_ge hi (by omega)), stands_r hP h hr hday hi, nI_1, or0]
      simp only [Option.bind_some]
      cases c1 : stB P rev day i
      · simpa [c1] using ih'
      · simpa [c1] using ih'
    · have : i = P.length := by omega
      subst this
      rw [if_pos (nI_le (Nat.le_refl _) (by omega))]
theorem standing_r (hP : PLok P) (h : PapR P f) (hr : RowR G R rev aside day w) (hday : day < 2 ^ 31) {t : MO} (ht : t.2.1 = nI P.length) : mX4_standing t f w = some (msk (stB P rev day) P.length) := by
  unfold mX4_standing
  exact standing_rl hP h hr hday ht FU 0 (Nat.zero_le _) (by have := hP.2.1; rw [FU_eq]; omega)
theorem bare_r1 (hP : PLok P) (hG : ∀ k, k < G.length → gOk P.length (gA G k)) (h : PapR P f) (hr : RowR G R rev aside day w) (hday : day < 2 ^ 31) {p : Nat} (hp : p < 32) (k4 : Int32 → Int32 → Option Int32) (n : Nat) : ∀ (m i : Nat), i ≤ G.length → G.length - i < m → mX4_bare_b15 k4 w f (nI n) (nI p) m (!anyB (fun g => cnK P G rev aside day g && wi p 5 (gA G g).2.2.1 (gA G g).2.2.2.1) i) (nI i) = k4 (nI (n + if (!anyB (fun g => cnK P G rev aside day g && wi p 5 (gA G g).2.2.1 (gA G g).2.2.2.1) G.length) = true then 1 else 0)) (nI (p + 1)) := by
  obtain ⟨n1, n2, z0, zg, z41, zr, z63, z64, z65⟩ := id hr
  intro m
  induction m with
  | zero => intro i h1 h2; omega
  | succ m ih =>
    intro i h1 h2
    rw [mX4_bare_b15]
    simp only [L0, L1, L2, L3, L5, pk_mul, nI_add]
    rw [rd_ok rfl (by decide) (by decide), z0]
    by_cases hi : i < G.length
    · obtain ⟨a1, a2, a3, a4, a5⟩ := zg i hi
      obtain ⟨v1, v2, v3, v4, v5⟩ := hG i hi
      have ih' := ih (i + 1) hi (by omega)
      rw [anyB_s] at ih'
      rw [if_neg (nI_ge hi (by omega)), counts_r hP hG h hr hday hi]
      simp only [Option.bind_some]
      cases c1 : anyB (fun g => cnK P G rev aside day g && wi p 5 (gA G g).2.2.1 (gA G g).2.2.2.1) i
      · simp only [c1, Bool.false_or] at ih'
        rw [if_pos (show (!false) = true from rfl)]
        cases c2 : cnK P G rev aside day i
        · simp only [c2, Bool.false_and] at ih'
          exact ih'
        · simp only [c2, Bool.true_and] at ih'
          rw [if_pos rfl, rd_ok rfl (by omega) (by decide), a3, rd_ok rfl (by omega) (by decide), a4, wi_r hp (by decide) v3.2.1 v3.1]
          simp only [Option.bind_some]
          cases c3 : wi p 5 (gA G i).2.2.1 (gA G i).2.2.2.1
          · simp only [c3] at ih'
            exact ih'
          · simp only [c3] at ih'
            exact ih'
      · simp only [c1, Bool.true_or] at ih'
        rw [if_neg (by decide)]
        exact ih'
    · have : i = G.length := by omega
      subst this
      rw [if_pos (nI_le (Nat.le_refl _) (by omega))]
      split <;> rfl
theorem bare_rl (hP : PLok P) (hG : ∀ k, k < G.length → gOk P.length (gA G k)) (h : PapR P f) (hr : RowR G R rev aside day w) (hday : day < 2 ^ 31) : ∀ (m p : Nat), p ≤ 32 → 32 - p < m → mX4_bare_b4 w f m (nI (cnt (fun p => !anyB (fun g => cnK P G rev aside day g && wi p 5 (gA G g).2.2.1 (gA G g).2.2.2.1) G.length) p)) (nI p) = some (nI (bareS (cnK P G rev aside day) G)) := by
  intro m
  induction m with
  | zero => intro p h1 h2; omega
  | succ m ih =>
    intro p h1 h2
    rw [mX4_bare_b4, L32]
    by_cases hp : p < 32
    · rw [if_neg (nI_ge hp (by decide))]
      have e := bare_r1 hP hG h hr hday hp (mX4_bare_b4 w f m) (cnt (fun p => !anyB (fun g => cnK P G rev aside day g && wi p 5 (gA G g).2.2.1 (gA G g).2.2.2.1) G.length) p) FU 0 (Nat.zero_le _) (by have := hr.1; rw [FU_eq]; omega)
      have ih' := ih (p + 1) hp (by omega)
      rw [cnt_s] at ih'
      exact e.trans ih'
    · have : p = 32 := by omega
      subst this
      rw [if_pos (nI_le (Nat.le_refl _) (by decide))]
      rfl
theorem bare_r (hP : PLok P) (hG : ∀ k, k < G.length → gOk P.length (gA G k)) (h : PapR P f) (hr : RowR G R rev aside day w) (hday : day < 2 ^ 31) : mX4_bare w f = some (nI (bareS (cnK P G rev aside day) G)) := by
  unfold mX4_bare
  exact bare_rl hP hG h hr hday FU 0 (Nat.zero_le _) (by rw [FU_eq]; decide)
end RF2
