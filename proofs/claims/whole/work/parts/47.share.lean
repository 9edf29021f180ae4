/-! shares -/
def MK (P : List PN) (G : List GN) (R : List RN) (rev aside : Int32) (day : Nat) (r k : Nat) : Bool := cnK P G rev aside day k && rgtB G (rA R r).1 (rA R r).2.1 (rA R r).2.2 k
theorem stS2 (c : Nat → Bool) (G : List GN) (s l o n : Nat) : decide (stS c G s l o n = 2) = anyB (fun i => c i && rgtB G s l o i) n := by
  unfold stS
  cases anyB (fun i => c i && rgtB G s l o i) n with
  | true => rw [if_pos rfl]; rfl
  | false =>
    rw [if_neg Bool.false_ne_true]
    cases anyB (fun i => c i && winB G s l i) n with
    | true => rw [if_pos rfl]; rfl
    | false => rw [if_neg Bool.false_ne_true]; rfl
theorem and_sh {x : Int32} {i : Nat} (hi : i < 31) (h : bi x i = true) : x &&& ((1 : Int32) <<< (nI i &&& 31)) = (1 : Int32) <<< (nI i &&& 31) := by
  refine b_ext (fun j hj => ?_)
  rw [b_and, ← bi_bt _ hj, ← bi_bt _ hj, bi_sh hi hj]
  by_cases z : j = i
  · subst z; rw [h, Bool.true_and]
  · rw [decide_eq_false z, Bool.and_false]
section SH
variable {P : List PN} {G : List GN} {R : List RN} {rev aside : Int32} {day : Nat} {f w : Nat → Int32} {bo po go ro : I3} {pa ga ra : Ar}
theorem only_k {c : Nat → Bool} {k : Nat} (hk : k < G.length) (s l o : Nat) : anyB (fun i => (c i && decide (i = k)) && rgtB G s l o i) G.length = (c k && rgtB G s l o k) := by
  cases q : (c k && rgtB G s l o k) with
  | true =>
    refine anyB_t hk ?_
    rw [decide_eq_true rfl, Bool.and_true]
    exact q
  | false =>
    cases y : anyB (fun i => (c i && decide (i = k)) && rgtB G s l o i) G.length with
    | false => rfl
    | true =>
      obtain ⟨i, hi, e⟩ := anyB_e y
      by_cases z : i = k
      · subst z
        rw [decide_eq_true rfl, Bool.and_true, q] at e
        exact absurd e Bool.false_ne_true
      · rw [decide_eq_false z, Bool.and_false, Bool.false_and] at e
        exact absurd e Bool.false_ne_true
theorem makers_l (hP : PLok P) (hG : ∀ k, k < G.length → gOk P.length (gA G k)) (hn : G.length ≤ 8) (hR : ∀ k, k < R.length → rOk (rA R k)) (hr6 : R.length ≤ 7) (g : GrC G go ga) (r : RtC R ro ra) {i : Nat} (hi : i < R.length) : ∀ (m k : Nat), k ≤ G.length → G.length - k < m → mX0_grantsThatMakeRight_b5 go ro ra ga (nI i) (msk (cnK P G rev aside day) G.length) m (msk (MK P G R rev aside day i) k) (nI k) = some (msk (MK P G R rev aside day i) G.length) := by
  intro m
  induction m with
  | zero => intro k h1 h2; omega
  | succ m ih =>
    intro k h1 h2
    rw [mX0_grantsThatMakeRight_b5, g.cnt]
    by_cases hk : k < G.length
    · have hx : ∀ j, j < G.length → bi (msk (cnK P G rev aside day) G.length &&& ((1 : Int32) <<< (nI k &&& 31))) j = (cnK P G rev aside day j && decide (j = k)) := by
        intro j hj
        rw [bi_and _ _ (by omega), bi_sh (by omega) (by omega), bi_msk _ (by omega) (by omega), decide_eq_true hj, Bool.true_and]
      have q1 := those_c (gOk.v hG) hR g r (fun j => cnK P G rev aside day j && decide (j = k)) _ hx 2 (by decide)
      have q2 : bi (msk (fun j => decide (qS (fun j => cnK P G rev aside day j && decide (j = k)) G R j = 2)) R.length) i = MK P G R rev aside day i k := by
        rw [bi_msk _ (by omega) (by omega), decide_eq_true hi, Bool.true_and]
        unfold qS
        rw [stS2, only_k hk]
        rfl
      rw [if_neg (nI_ge hk (by omega)), bnd_eq, L2, q1, Option.bind_some, mbit, q2, Option.bind_some, nI_1]
      have hs := msk_s (MK P G R rev aside day i) k
      cases y : MK P G R rev aside day i k with
      | true =>
        rw [y, if_pos rfl] at hs
        have yc : cnK P G rev aside day k = true := by
          unfold MK at y
          cases z : cnK P G rev aside day k with
          | true => rfl
          | false => rw [z, Bool.false_and] at y; exact y
        rw [if_pos (show b2i true = (1 : Int32) from rfl), and_sh (by omega) (by rw [bi_msk _ (by omega) (by omega), decide_eq_true hk, Bool.true_and]; exact yc), ← hs]
        exact ih (k + 1) hk (by omega)
      | false =>
        rw [y, if_neg Bool.false_ne_true] at hs
        rw [if_neg (show ¬ b2i false = (1 : Int32) by decide), ← hs]
        exact ih (k + 1) hk (by omega)
    · have : k = G.length := by omega
      subst this
      rw [if_pos (nI_le (Nat.le_refl _) (by omega))]
theorem share_cl (hP : PLok P) (hG : ∀ k, k < G.length → gOk P.length (gA G k)) (hn : G.length ≤ 8) (hR : ∀ k, k < R.length → rOk (rA R k)) (hr6 : R.length ≤ 7) (g : GrC G go ga) (r : RtC R ro ra) {i : Nat} (hi : i < G.length) (v2 : Bool) : ∀ (m k : Nat), k ≤ R.length → R.length - k < m → mX3_share_b30 bo go po pa ga ro ra (nI i) v2 (msk (cnK P G rev aside day) G.length) m (nI (shB (MK P G R rev aside day) G.length i k)) (nI k) = mX3_fraction (nI (shB (MK P G R rev aside day) G.length i R.length)) (840 : Int32) v2 := by
  intro m
  induction m with
  | zero => intro k h1 h2; omega
  | succ m ih =>
    intro k h1 h2
    rw [mX3_share_b30, r.cnt]
    by_cases hk : k < R.length
    · have e1 : mX0_grantsThatMakeRight go ro ra ga (nI k) (msk (cnK P G rev aside day) G.length) = some (msk (MK P G R rev aside day k) G.length) := by
        unfold mX0_grantsThatMakeRight
        exact makers_l hP hG hn hR hr6 g r hk FU 0 (Nat.zero_le _) (by rw [FU_eq]; omega)
      have e2 : cnt (bi (msk (MK P G R rev aside day k) G.length)) 32 = cnt (MK P G R rev aside day k) G.length := by
        rw [cnt_cong (q := fun j => decide (j < G.length) && MK P G R rev aside day k j) (fun j hj => bi_msk _ (by omega) hj)]
        exact cnt_cut _ _ 32 (by omega)
      have hs : shB (MK P G R rev aside day) G.length i (k + 1) = shB (MK P G R rev aside day) G.length i k + (if MK P G R rev aside day k i = true then 840 / cnt (MK P G R rev aside day k) G.length else 0) := rfl
      rw [if_neg (nI_ge hk (by omega)), e1, Option.bind_some, bitCount_ok, e2, Option.bind_some, mbit, bi_msk _ (by omega) (by omega), decide_eq_true hi, Bool.true_and, Option.bind_some, nI_1]
      cases y : MK P G R rev aside day k i with
      | true =>
        have c1 := cnt_pos (p := MK P G R rev aside day k) hi y
        have c2 := cnt_le (MK P G R rev aside day k) G.length
        rw [y, if_pos rfl] at hs
        rw [if_pos (show b2i true = (1 : Int32) from rfl), if_neg (show ¬ nI (cnt (MK P G R rev aside day k) G.length) ≤ (0 : Int32) from nI_ge (a := 0) c1 (by omega)), show (840 : Int32) = nI 840 from rfl, dv_ok (by decide) c1 (by omega), nI_add, ← hs]
        exact ih (k + 1) hk (by omega)
      | false =>
        rw [y, if_neg Bool.false_ne_true] at hs
        have hs' : shB (MK P G R rev aside day) G.length i (k + 1) = shB (MK P G R rev aside day) G.length i k := hs
        rw [if_neg (show ¬ b2i false = (1 : Int32) by decide), ← hs']
        exact ih (k + 1) hk (by omega)
    · have : k = R.length := by omega
      subst this
      rw [if_pos (nI_le (Nat.le_refl _) (by omega))]
      cases mX3_fraction (nI (shB (MK P G R rev aside day) G.length i R.length)) (840 : Int32) v2 <;> rfl
theorem rightBy_l (hP : PLok P) (hG : ∀ k, k < G.length → gOk P.length (gA G k)) (hn : G.length ≤ 8) (hR : ∀ k, k < R.length → rOk (rA R k)) (h : PapR P f) (hr : RowR G R rev aside day w) (hday : day < 2 ^ 31) {S : Nat} (hS : S < 2 ^ 31) : ∀ (m k : Nat), k ≤ R.length → R.length - k < m → mX4_rightBy_b4 w f (nI S) m (nI (wR (MK P G R rev aside day) G.length k S)) (nI k) = some (nI (wR (MK P G R rev aside day) G.length R.length S)) := by
  have h7 := hr.2.1
  intro m
  induction m with
  | zero => intro k h1 h2; omega
  | succ m ih =>
    intro k h1 h2
    rw [mX4_rightBy_b4, rd_ok (show (41 : Int32) = nI 41 from rfl) (by decide) (by decide), hr.2.2.2.2.1]
    by_cases hk : k < R.length
    · obtain ⟨z1, z2, z3⟩ := hr.2.2.2.2.2.1 k hk
      obtain ⟨v, o6⟩ := hR k hk
      rw [if_neg (nI_ge hk (by omega)), show (42 : Int32) + (3 : Int32) * nI k = nI (42 + 3 * k) by rw [L3, pk_mul, L42, nI_add], show nI (42 + 3 * k) + (1 : Int32) = nI (42 + 3 * k + 1) from nI_1 _, show nI (42 + 3 * k) + (2 : Int32) = nI (42 + 3 * k + 2) from nI_add _ 2, rd_ok rfl (by omega) (by decide), rd_ok rfl (by omega) (by decide), rd_ok rfl (by omega) (by decide), z1, z2, z3, stateBy_r hP hG h hr hday v o6, Option.bind_some, nI_1 k]
      have hl := stS_lt (fun j => bi (nI S) j && cnK P G rev aside day j) G (rA R k).1 (rA R k).2.1 (rA R k).2.2 G.length
      have e2 : decide (stS (fun j => bi (nI S) j && cnK P G rev aside day j) G (rA R k).1 (rA R k).2.1 (rA R k).2.2 G.length = 2) = anS (MK P G R rev aside day k) G.length S := by
        rw [stS2]
        unfold anS MK
        exact anyB_cong (fun j hj => by rw [bi_nat hS (by omega), Bool.and_assoc])
      have hs : wR (MK P G R rev aside day) G.length (k + 1) S = wR (MK P G R rev aside day) G.length k S + (if anS (MK P G R rev aside day k) G.length S = true then 1 else 0) := rfl
      by_cases y : stS (fun j => bi (nI S) j && cnK P G rev aside day j) G (rA R k).1 (rA R k).2.1 (rA R k).2.2 G.length = 2
      · rw [decide_eq_true y] at e2
        rw [← e2, if_pos rfl] at hs
        rw [y, if_pos (show nI 2 = (2 : Int32) from rfl), nI_1, ← hs]
        exact ih (k + 1) hk (by omega)
      · rw [decide_eq_false y] at e2
        rw [← e2, if_neg Bool.false_ne_true] at hs
        rw [if_neg (show ¬ nI (stS (fun j => bi (nI S) j && cnK P G rev aside day j) G (rA R k).1 (rA R k).2.1 (rA R k).2.2 G.length) = (2 : Int32) from fun z => y ((nI_eq (b := 2) (by omega) (by decide)).mp z)), L0, nI_add, ← hs]
        exact ih (k + 1) hk (by omega)
    · have : k = R.length := by omega
      subst this
      rw [if_pos (nI_le (Nat.le_refl _) (by omega))]
theorem rightBy_r (hP : PLok P) (hG : ∀ k, k < G.length → gOk P.length (gA G k)) (hn : G.length ≤ 8) (hR : ∀ k, k < R.length → rOk (rA R k)) (h : PapR P f) (hr : RowR G R rev aside day w) (hday : day < 2 ^ 31) {S : Nat} (hS : S < 2 ^ 31) : mX4_rightBy w f (nI S) = some (nI (wR (MK P G R rev aside day) G.length R.length S)) := by
  unfold mX4_rightBy
  exact rightBy_l hP hG hn hR h hr hday hS FU 0 (Nat.zero_le _) (by have := hr.2.1; rw [FU_eq]; omega)
theorem fact_l {n : Nat} (hn : n ≤ 8) : ∀ (m i : Nat), 2 ≤ i → i ≤ n + 1 → n + 1 - i < m → mX4_factorial_b4 (nI n) m (nI (fa (i - 1))) (nI i) = some (nI (fa n)) := by
  intro m
  induction m with
  | zero => intro i h0 h1 h2; omega
  | succ m ih =>
    intro i h0 h1 h2
    rw [mX4_factorial_b4]
    by_cases hi : n < i
    · have : i - 1 = n := by omega
      rw [if_pos (nI_lt hi (by omega)), this]
    · obtain ⟨j, rfl⟩ : ∃ j, i = j + 1 := ⟨i - 1, by omega⟩
      rw [if_neg (nI_nlt (by omega) (by omega)), pk_mul, nI_1]
      exact ih (j + 1 + 1) (by omega) (by omega) (by omega)
theorem fact_r {n : Nat} (hn : n ≤ 8) : mX4_factorial (nI n) = some (nI (fa n)) := by
  unfold mX4_factorial
  by_cases h0 : n = 0
  · subst h0
    obtain ⟨k, hk⟩ : ∃ k, FU = k + 1 := ⟨999999, FU_eq⟩
    rw [hk, mX4_factorial_b4, if_pos (by decide)]
    rfl
  · exact fact_l hn FU 2 (by decide) (by omega) (by rw [FU_eq]; omega)
theorem ones_l {S : Nat} (hS : S < 2 ^ 31) : ∀ (m i : Nat), i ≤ 8 → 8 - i < m → mX4_ones_b4 (nI S) m (nI (cnt (fun j => S.testBit j) i)) (nI i) = some (nI (popN S)) := by
  intro m
  induction m with
  | zero => intro i h1 h2; omega
  | succ m ih =>
    intro i h1 h2
    rw [mX4_ones_b4]
    by_cases hi : i < 8
    · have e : b2i (S.testBit i) = nI (if S.testBit i = true then 1 else 0) := by cases S.testBit i <;> rfl
      rw [if_neg (show ¬ (8 : Int32) ≤ nI i by rw [L8]; exact nI_ge hi (by decide)), bnd_eq, bi_v, bi_nat hS (by omega), e, nI_add, nI_1, ← cnt_s]
      exact ih (i + 1) hi (by omega)
    · have : i = 8 := by omega
      subst this
      rw [if_pos (by decide)]
      rfl
theorem ones_r {S : Nat} (hS : S < 2 ^ 31) : mX4_ones (nI S) = some (nI (popN S)) := by
  unfold mX4_ones
  exact ones_l hS FU 0 (by decide) (by rw [FU_eq]; decide)
theorem pop_lt {n g S : Nat} (hn : n ≤ 8) (hg : g < n) (hS : S < 2 ^ n) (h : S.testBit g = false) : popN S ≤ n - 1 := by
  unfold popN
  rw [cnt_cong (q := fun j => decide (j < n) && S.testBit j) (fun k hk => by
    by_cases z : k < n
    · rw [decide_eq_true z, Bool.true_and]
    · rw [decide_eq_false z, Bool.false_and]
      exact Nat.testBit_lt_two_pow (Nat.lt_of_lt_of_le hS (Nat.pow_le_pow_right (by decide) (by omega)))), cnt_cut _ _ 8 hn]
  have h1 := cnt_not (fun j => S.testBit j) n
  have h2 := cnt_pos (p := fun k => !S.testBit k) hg (by rw [h]; rfl)
  have h3 := cnt_le (fun j => S.testBit j) n
  show cnt (fun j => S.testBit j) n ≤ n - 1
  omega
end SH
