/-! sums over sets of grants -/
def sumN (f : Nat → Nat) : Nat → Nat
  | 0 => 0
  | n + 1 => sumN f n + f n
theorem sumN_s (f : Nat → Nat) (n : Nat) : sumN f (n + 1) = sumN f n + f n := rfl
theorem sumN_cong {f h : Nat → Nat} : ∀ {n : Nat}, (∀ i, i < n → f i = h i) → sumN f n = sumN h n
  | 0, _ => rfl
  | n + 1, e => by rw [sumN_s, sumN_s, sumN_cong (fun i hi => e i (by omega)), e n (by omega)]
theorem sumN_0 : ∀ n, sumN (fun _ => 0) n = 0
  | 0 => rfl
  | n + 1 => by rw [sumN_s, sumN_0 n]
theorem sumN_add (f h : Nat → Nat) : ∀ n, sumN (fun i => f i + h i) n = sumN f n + sumN h n
  | 0 => rfl
  | n + 1 => by rw [sumN_s, sumN_s, sumN_s, sumN_add f h n]; omega
theorem sumN_mulR (f : Nat → Nat) (c : Nat) : ∀ n, sumN (fun i => f i * c) n = sumN f n * c
  | 0 => (Nat.zero_mul c).symm
  | n + 1 => by rw [sumN_s, sumN_s, sumN_mulR f c n, Nat.add_mul]
theorem sumN_mulL (f : Nat → Nat) (c : Nat) : ∀ n, sumN (fun i => c * f i) n = c * sumN f n
  | 0 => rfl
  | n + 1 => by rw [sumN_s, sumN_s, sumN_mulL f c n, Nat.mul_add]
theorem sumN_swap (h : Nat → Nat → Nat) (m : Nat) : ∀ n, sumN (fun i => sumN (fun j => h i j) m) n = sumN (fun j => sumN (fun i => h i j) n) m
  | 0 => (sumN_0 m).symm
  | n + 1 => by rw [sumN_s, sumN_swap h m n, ← sumN_add]; rfl
theorem sumN_split (f : Nat → Nat) (a : Nat) : ∀ b, sumN f (a + b) = sumN f a + sumN (fun i => f (a + i)) b
  | 0 => rfl
  | b + 1 => by rw [show a + (b + 1) = (a + b) + 1 from rfl, sumN_s, sumN_split f a b, sumN_s]; omega
theorem sumN_le {f : Nat → Nat} {c : Nat} : ∀ {n : Nat}, (∀ i, i < n → f i ≤ c) → sumN f n ≤ n * c
  | 0, _ => Nat.zero_le _
  | n + 1, h => by
    have h1 := sumN_le (n := n) (fun i hi => h i (by omega))
    have h2 := h n (by omega)
    rw [sumN_s, Nat.add_mul]
    omega
theorem cnt_sum (p : Nat → Bool) : ∀ n, cnt p n = sumN (fun i => if p i = true then 1 else 0) n
  | 0 => rfl
  | n + 1 => by rw [cnt_s, sumN_s, cnt_sum p n]
theorem cnt_not (p : Nat → Bool) : ∀ n, cnt (fun k => !p k) n = n - cnt p n
  | 0 => rfl
  | n + 1 => by
    have := cnt_le p n
    rw [cnt_s, cnt_s, cnt_not p n]
    cases p n with
    | true => rw [if_neg (show ¬ (!true) = true by decide), if_pos rfl]; omega
    | false => rw [if_pos (show (!false) = true from rfl), if_neg (by decide)]; omega
theorem cnt_pos {p : Nat → Bool} {n g : Nat} (hg : g < n) (h : p g = true) : 1 ≤ cnt p n := by
  induction n with
  | zero => omega
  | succ n ih =>
    rw [cnt_s]
    by_cases z : g = n
    · subst z; rw [if_pos h]; omega
    · have := ih (by omega)
      omega
theorem cnt_cut (p : Nat → Bool) (n : Nat) : ∀ N, n ≤ N → cnt (fun j => decide (j < n) && p j) N = cnt p n := by
  intro N
  induction N with
  | zero => intro h; have : n = 0 := by omega
            subst this; rfl
  | succ N ih =>
    intro h
    by_cases z : n = N + 1
    · subst z
      exact cnt_cong (fun k hk => by rw [decide_eq_true hk, Bool.true_and])
    · rw [cnt_s, ih (by omega), decide_eq_false (by omega), Bool.false_and, if_neg Bool.false_ne_true, Nat.add_zero]
def popN (S : Nat) : Nat := cnt (fun i => S.testBit i) 8
def anS (m : Nat → Bool) (n S : Nat) : Bool := anyB (fun k => S.testBit k && m k) n
def Fw : Nat → (Nat → Nat) → Nat
  | 0, w => w 0
  | f + 1, w => Fw f w + Fw f (fun s => w (s + 1))
theorem tb_add {S j : Nat} (h : S < 2 ^ j) (k : Nat) : (2 ^ j + S).testBit k = (S.testBit k || decide (j = k)) := by
  rw [Nat.add_comm, ← or_hi h, Nat.testBit_or, Nat.testBit_two_pow]
theorem pop_add : ∀ j, j < 8 → ∀ S, S < 2 ^ j → popN (2 ^ j + S) = popN S + 1 := by
  intro j hj S hS
  unfold popN
  have hz : ∀ k, j ≤ k → S.testBit k = false := fun k hk => Nat.testBit_lt_two_pow (Nat.lt_of_lt_of_le hS (Nat.pow_le_pow_right (by decide) hk))
  have main : ∀ N, cnt (fun i => (2 ^ j + S).testBit i) N = cnt (fun i => S.testBit i) N + (if j < N then 1 else 0) := by
    intro N
    induction N with
    | zero => rfl
    | succ N ih =>
      rw [cnt_s, cnt_s, ih, tb_add hS N]
      by_cases z : j = N
      · subst z
        rw [hz j (Nat.le_refl _), decide_eq_true rfl, if_neg (Nat.lt_irrefl _), if_pos (show (false || true) = true from rfl), if_neg Bool.false_ne_true, if_pos (show j < j + 1 by omega)]
      · rw [decide_eq_false z, Bool.or_false]
        by_cases y : j < N
        · rw [if_pos y, if_pos (show j < N + 1 by omega)]; omega
        · rw [if_neg y, if_neg (show ¬ j < N + 1 by omega)]; omega
  rw [main 8, if_pos hj]
theorem anS_add {m : Nat → Bool} {n j S : Nat} (hj : j < n) (hS : S < 2 ^ j) : anS m n (2 ^ j + S) = (anS m n S || m j) := by
  unfold anS
  cases hm : m j with
  | true =>
    rw [Bool.or_true]
    exact anyB_t hj (by rw [tb_add hS, decide_eq_true rfl, Bool.or_true, hm]; rfl)
  | false =>
    rw [Bool.or_false]
    refine anyB_cong (fun k hk => ?_)
    rw [tb_add hS]
    by_cases z : j = k
    · subst z; rw [hm, Bool.and_false, Bool.and_false]
    · rw [decide_eq_false z, Bool.or_false]
theorem subs (m : Nat → Bool) {n : Nat} (hn : n ≤ 8) : ∀ (j : Nat), j ≤ n → ∀ w : Nat → Nat, sumN (fun S => if anS m n S = true then 0 else w (popN S)) (2 ^ j) = Fw (cnt (fun k => !m k) j) w := by
  intro j
  induction j with
  | zero =>
    intro _ w
    show 0 + (if anS m n 0 = true then 0 else w (popN 0)) = w 0
    have h0 : anS m n 0 = false := by
      unfold anS
      cases q : anyB (fun k => Nat.testBit 0 k && m k) n with
      | false => rfl
      | true =>
        obtain ⟨i, hi, e⟩ := anyB_e q
        rw [Nat.zero_testBit] at e
        exact absurd e (by rw [Bool.false_and]; exact Bool.false_ne_true)
    rw [h0, if_neg Bool.false_ne_true, Nat.zero_add]
    rfl
  | succ j ih =>
    intro h w
    rw [Nat.pow_succ, Nat.mul_two, sumN_split, ih (by omega) w, cnt_s]
    have e2 : sumN (fun i => if anS m n (2 ^ j + i) = true then 0 else w (popN (2 ^ j + i))) (2 ^ j) = sumN (fun i => if (anS m n i || m j) = true then 0 else w (popN i + 1)) (2 ^ j) := sumN_cong (fun i hi => by rw [anS_add (by omega) hi, pop_add j (by omega) i hi])
    rw [e2]
    cases hm : m j with
    | true =>
      rw [if_neg (by decide), Nat.add_zero, sumN_cong (h := fun _ => 0) (fun i hi => by rw [Bool.or_true, if_pos rfl]), sumN_0, Nat.add_zero]
    | false =>
      rw [if_pos (by decide), sumN_cong (h := fun i => if anS m n i = true then 0 else (fun s => w (s + 1)) (popN i)) (fun i hi => by rw [Bool.or_false])]
      exact congrArg (fun z => Fw (cnt (fun k => !m k) j) w + z) (ih (by omega) (fun s => w (s + 1)))
def fa : Nat → Nat
  | 0 => 1
  | n + 1 => fa n * (n + 1)
def wt (n s : Nat) : Nat := fa s * fa (n - 1 - s)
theorem fin_dec : ∀ n, n < 9 → ∀ k, k < 9 → 1 ≤ k → k ≤ n → Fw (n - k) (wt n) * 840 = 840 / k * fa n ∧ Fw (n - k) (wt n) ≤ 40320 ∧ 840 / k ≤ 840 := by decide +kernel
theorem fa_b : ∀ n, n < 9 → 0 < fa n ∧ fa n ≤ 40320 := by decide +kernel
theorem wt_b : ∀ n, n < 9 → ∀ s, s < 9 → wt n s ≤ 40320 := by decide +kernel
/-- what both sums are, by the makers of each route -/
def shA (M : Nat → Nat → Bool) (n g nr : Nat) : Nat := sumN (fun r => if M r g = true then Fw (cnt (fun k => !M r k) n) (wt n) else 0) nr
def shB (M : Nat → Nat → Bool) (n g nr : Nat) : Nat := sumN (fun r => if M r g = true then 840 / cnt (M r) n else 0) nr
theorem sh_eq (M : Nat → Nat → Bool) {n g : Nat} (hn : n ≤ 8) (hg : g < n) (nr : Nat) : shA M n g nr * 840 = shB M n g nr * fa n ∧ shA M n g nr ≤ nr * 40320 ∧ shB M n g nr ≤ nr * 840 := by
  have key : ∀ r, M r g = true → Fw (cnt (fun k => !M r k) n) (wt n) * 840 = 840 / cnt (M r) n * fa n ∧ Fw (cnt (fun k => !M r k) n) (wt n) ≤ 40320 ∧ 840 / cnt (M r) n ≤ 840 := by
    intro r h
    have h1 := cnt_pos (p := M r) hg h
    have h2 := cnt_le (M r) n
    rw [cnt_not]
    exact fin_dec n (by omega) _ (by omega) h1 h2
  refine ⟨?_, sumN_le (fun r hr => ?_), sumN_le (fun r hr => ?_)⟩
  · unfold shA shB
    rw [← sumN_mulR, ← sumN_mulR]
    refine sumN_cong (fun r hr => ?_)
    by_cases h : M r g = true
    · rw [if_pos h, if_pos h]; exact (key r h).1
    · rw [if_neg h, if_neg h, Nat.zero_mul, Nat.zero_mul]
  · by_cases h : M r g = true
    · rw [if_pos h]; exact (key r h).2.1
    · rw [if_neg h]; exact Nat.zero_le _
  · by_cases h : M r g = true
    · rw [if_pos h]; exact (key r h).2.2
    · rw [if_neg h]; exact Nat.zero_le _
def wR (M : Nat → Nat → Bool) (n nr S : Nat) : Nat := cnt (fun r => anS (M r) n S) nr
theorem anS_or {m : Nat → Bool} {n g : Nat} (hg : g < n) (S : Nat) : anS m n (S ||| 2 ^ g) = (anS m n S || m g) := by
  unfold anS
  cases hm : m g with
  | true =>
    rw [Bool.or_true]
    exact anyB_t hg (by rw [Nat.testBit_or, Nat.testBit_two_pow, decide_eq_true rfl, Bool.or_true, hm]; rfl)
  | false =>
    rw [Bool.or_false]
    refine anyB_cong (fun k hk => ?_)
    rw [Nat.testBit_or, Nat.testBit_two_pow]
    by_cases z : g = k
    · subst z; rw [hm, Bool.and_false, Bool.and_false]
    · rw [decide_eq_false z, Bool.or_false]
theorem wR_or (M : Nat → Nat → Bool) {n g : Nat} (hg : g < n) (S : Nat) : ∀ nr, wR M n nr (S ||| 2 ^ g) = wR M n nr S + cnt (fun r => M r g && !anS (M r) n S) nr
  | 0 => rfl
  | nr + 1 => by
    have := wR_or M hg S nr
    unfold wR at this ⊢
    rw [cnt_s, cnt_s, cnt_s, this, anS_or hg S]
    cases anS (M nr) n S <;> cases M nr g <;> simp <;> omega
/-- the reference's sum is the sum by routes -/
theorem ref_sum (M : Nat → Nat → Bool) {n g : Nat} (hn : n ≤ 8) (hg : g < n) (nr : Nat) : sumN (fun S => if S.testBit g = true then 0 else wt n (popN S) * (wR M n nr (S ||| 2 ^ g) - wR M n nr S)) (2 ^ n) = shA M n g nr := by
  have e1 : sumN (fun S => if S.testBit g = true then 0 else wt n (popN S) * (wR M n nr (S ||| 2 ^ g) - wR M n nr S)) (2 ^ n) = sumN (fun S => sumN (fun r => if M r g = true then (if anS (M r) n S = true then 0 else wt n (popN S)) else 0) nr) (2 ^ n) := by
    refine sumN_cong (fun S hS => ?_)
    rw [wR_or M hg S nr, Nat.add_sub_cancel_left]
    by_cases h : S.testBit g = true
    · rw [if_pos h, sumN_cong (h := fun _ => 0) (fun r hr => ?_), sumN_0]
      by_cases y : M r g = true
      · rw [if_pos y, if_pos (show anS (M r) n S = true by unfold anS; exact anyB_t hg (show (S.testBit g && M r g) = true by rw [h, y]; rfl))]
      · rw [if_neg y]
    · rw [if_neg h, cnt_sum, ← sumN_mulL]
      refine sumN_cong (fun r hr => ?_)
      cases M r g <;> cases anS (M r) n S <;> simp
  rw [e1, sumN_swap]
  unfold shA
  refine sumN_cong (fun r hr => ?_)
  by_cases y : M r g = true
  · rw [if_pos y, ← subs (M r) hn n (Nat.le_refl _) (wt n)]
    exact sumN_cong (fun S hS => by rw [if_pos y])
  · rw [if_neg y, sumN_cong (h := fun _ => 0) (fun S hS => by rw [if_neg y]), sumN_0]
/-! fractions in their lowest terms -/
theorem low_eq {a d b e : Nat} (hd : 0 < d) (he : 0 < e) (h : a * e = b * d) : a / Nat.gcd a d = b / Nat.gcd b e ∧ d / Nat.gcd a d = e / Nat.gcd b e := by
  have g1 : 0 < Nat.gcd a d := Nat.gcd_pos_of_pos_right a hd
  have g2 : 0 < Nat.gcd b e := Nat.gcd_pos_of_pos_right b he
  have c1 : Nat.Coprime (a / Nat.gcd a d) (d / Nat.gcd a d) := Nat.coprime_div_gcd_div_gcd g1
  have c2 : Nat.Coprime (b / Nat.gcd b e) (e / Nat.gcd b e) := Nat.coprime_div_gcd_div_gcd g2
  have ea : a / Nat.gcd a d * Nat.gcd a d = a := Nat.div_mul_cancel (Nat.gcd_dvd_left a d)
  have ed : d / Nat.gcd a d * Nat.gcd a d = d := Nat.div_mul_cancel (Nat.gcd_dvd_right a d)
  have eb : b / Nat.gcd b e * Nat.gcd b e = b := Nat.div_mul_cancel (Nat.gcd_dvd_left b e)
  have ee : e / Nat.gcd b e * Nat.gcd b e = e := Nat.div_mul_cancel (Nat.gcd_dvd_right b e)
  generalize Nat.gcd a d = x at *
  generalize Nat.gcd b e = y at *
  generalize a / x = a' at *
  generalize d / x = d' at *
  generalize b / y = b' at *
  generalize e / y = e' at *
  have k : a' * e' = b' * d' := by
    have : (a' * e') * (x * y) = (b' * d') * (x * y) := by
      rw [← ea, ← ee, ← eb, ← ed] at h
      rw [show (a' * e') * (x * y) = (a' * x) * (e' * y) by rw [Nat.mul_mul_mul_comm], h, Nat.mul_mul_mul_comm, Nat.mul_comm y x]
    exact Nat.eq_of_mul_eq_mul_right (Nat.mul_pos g1 g2) this
  constructor
  · exact Nat.dvd_antisymm (c1.dvd_of_dvd_mul_right ⟨e', k.symm⟩) (c2.dvd_of_dvd_mul_right ⟨d', k⟩)
  · exact Nat.dvd_antisymm (c1.symm.dvd_of_dvd_mul_left ⟨b', by rw [k, Nat.mul_comm]⟩) (c2.symm.dvd_of_dvd_mul_left ⟨a', by rw [← k, Nat.mul_comm]⟩)
theorem half_mod {y r : Nat} (h0 : 0 < r) (h : r < y) : 2 * (y % r) < y := by
  have h1 := Nat.mod_lt y h0
  have h2 := Nat.div_add_mod y r
  have h3 : 1 ≤ y / r := (Nat.le_div_iff_mul_le h0).mpr (by omega)
  have h4 : r * 1 ≤ r * (y / r) := Nat.mul_le_mul_left r h3
  omega
theorem gcd_step (x y : Nat) : Nat.gcd x y = Nat.gcd y (x % y) := by rw [Nat.gcd_comm x y, Nat.gcd_rec y x, Nat.gcd_comm]
theorem frac_cl (v0 v1 : Int32) (v2 : Bool) : ∀ (j x y i k : Nat), y < 2 ^ j → i + 2 * j ≤ 63 → 2 * j < k → x < 2 ^ 31 → y < 2 ^ 31 → mX3_fraction_b8 v0 v1 v2 k (nI x) (nI y) (nI i) = mX3_fraction_b39 v0 v1 v2 (nI (Nat.gcd x y)) := by
  intro j
  induction j with
  | zero =>
    intro x y i k h1 h2 h3 h4 h5
    obtain ⟨k, rfl⟩ : ∃ c, k = c + 1 := ⟨k - 1, by omega⟩
    have : y = 0 := by omega
    subst this
    rw [mX3_fraction_b8, if_neg (show ¬ (64 : Int32) ≤ nI i by rw [L64]; exact nI_ge (by omega) (by decide)), if_pos (show nI 0 = (0 : Int32) from rfl), Nat.gcd_zero_right]
  | succ j ih =>
    intro x y i k h1 h2 h3 h4 h5
    obtain ⟨k, rfl⟩ : ∃ c, k = c + 1 := ⟨k - 1, by omega⟩
    rw [mX3_fraction_b8, if_neg (show ¬ (64 : Int32) ≤ nI i by rw [L64]; exact nI_ge (by omega) (by decide))]
    by_cases y0 : y = 0
    · subst y0
      rw [if_pos (show nI 0 = (0 : Int32) from rfl), Nat.gcd_zero_right]
    · have hr := Nat.mod_lt x (show 0 < y by omega)
      rw [if_neg (show ¬ nI y = (0 : Int32) from nI_ne0 (by omega) h5), rmd_ok h4 (by omega) h5, nI_1, gcd_step x y]
      obtain ⟨k, rfl⟩ : ∃ c, k = c + 1 := ⟨k - 1, by omega⟩
      rw [mX3_fraction_b8, if_neg (show ¬ (64 : Int32) ≤ nI (i + 1) by rw [L64]; exact nI_ge (by omega) (by decide))]
      by_cases r0 : x % y = 0
      · rw [r0, if_pos (show nI 0 = (0 : Int32) from rfl), Nat.gcd_zero_right]
      · have hh := half_mod (show 0 < x % y by omega) hr
        have hp : 2 ^ (j + 1) = 2 * 2 ^ j := by rw [Nat.pow_succ, Nat.mul_comm]
        rw [if_neg (show ¬ nI (x % y) = (0 : Int32) from nI_ne0 (by omega) (by omega)), rmd_ok h5 (by omega) (by omega), nI_1, gcd_step y (x % y)]
        exact ih _ _ _ _ (by omega) (by omega) (by omega) (by omega) (by omega)
theorem frac_rl (v0 v1 : Int32) (v2 : Bool) : ∀ (j x y k : Nat), y < 2 ^ j → 2 * j < k → x < 2 ^ 31 → y < 2 ^ 31 → mX4_fraction_b14 v0 v1 v2 k (nI x) (nI y) = (if v2 = true then dv v0 (nI (Nat.gcd x y)) (fun x41 => some (x41)) else dv v1 (nI (Nat.gcd x y)) (fun x47 => some (x47))) := by
  intro j
  induction j with
  | zero =>
    intro x y k h1 h3 h4 h5
    obtain ⟨k, rfl⟩ : ∃ c, k = c + 1 := ⟨k - 1, by omega⟩
    have : y = 0 := by omega
    subst this
    rw [mX4_fraction_b14, if_pos (show nI 0 = (0 : Int32) from rfl), Nat.gcd_zero_right]
  | succ j ih =>
    intro x y k h1 h3 h4 h5
    obtain ⟨k, rfl⟩ : ∃ c, k = c + 1 := ⟨k - 1, by omega⟩
    rw [mX4_fraction_b14]
    by_cases y0 : y = 0
    · subst y0
      rw [if_pos (show nI 0 = (0 : Int32) from rfl), Nat.gcd_zero_right]
    · have hr := Nat.mod_lt x (show 0 < y by omega)
      rw [if_neg (show ¬ nI y = (0 : Int32) from nI_ne0 (by omega) h5), rmd_ok h4 (by omega) h5, gcd_step x y]
      obtain ⟨k, rfl⟩ : ∃ c, k = c + 1 := ⟨k - 1, by omega⟩
      rw [mX4_fraction_b14]
      by_cases r0 : x % y = 0
      · rw [r0, if_pos (show nI 0 = (0 : Int32) from rfl), Nat.gcd_zero_right]
      · have hh := half_mod (show 0 < x % y by omega) hr
        have hp : 2 ^ (j + 1) = 2 * 2 ^ j := by rw [Nat.pow_succ, Nat.mul_comm]
        rw [if_neg (show ¬ nI (x % y) = (0 : Int32) from nI_ne0 (by omega) (by omega)), rmd_ok h5 (by omega) (by omega), gcd_step y (x % y)]
        exact ih _ _ _ (by omega) (by omega) (by omega) (by omega)
theorem frac_c {b e : Nat} (hb : b < 2 ^ 31) (he : 0 < e) (he2 : e < 2 ^ 31) (v2 : Bool) : mX3_fraction (nI b) (nI e) v2 = some (nI ((if v2 = true then b else e) / Nat.gcd b e)) := by
  unfold mX3_fraction
  have hg : 0 < Nat.gcd b e := Nat.gcd_pos_of_pos_right b he
  have hge : Nat.gcd b e ≤ e := Nat.gcd_le_right b he
  rw [show mX3_fraction_b8 (nI b) (nI e) v2 FU (nI e) (nI b) (0 : Int32) = mX3_fraction_b39 (nI b) (nI e) v2 (nI (Nat.gcd e b)) from frac_cl _ _ _ 31 e b 0 FU hb (by decide) (by rw [FU_eq]; decide) he2 hb, Nat.gcd_comm e b]
  have key : ∀ t : Nat, t < 2 ^ 31 → mX3_fraction_b48 (nI (Nat.gcd b e)) (nI t) = some (nI (t / Nat.gcd b e)) := by
    intro t ht
    unfold mX3_fraction_b48
    by_cases z : Nat.gcd b e ≤ 1
    · have : Nat.gcd b e = 1 := by omega
      rw [if_pos (show nI (Nat.gcd b e) ≤ (1 : Int32) from nI_le (b := 1) z (by decide)), this, Nat.div_one]
    · rw [if_neg (show ¬ nI (Nat.gcd b e) ≤ (1 : Int32) from nI_ge (a := 1) (by omega) (by omega)), dv_ok ht hg (by omega)]
  unfold mX3_fraction_b39
  cases v2 with
  | true => rw [if_pos rfl, if_pos rfl]; exact key b hb
  | false => rw [if_neg Bool.false_ne_true, if_neg Bool.false_ne_true]; exact key e he2
theorem frac_r {a d : Nat} (ha : a < 2 ^ 31) (hd : 0 < d) (hd2 : d < 2 ^ 31) (v2 : Bool) : mX4_fraction (nI a) (nI d) v2 = some (nI ((if v2 = true then a else d) / Nat.gcd a d)) := by
  unfold mX4_fraction
  have hg : 0 < Nat.gcd a d := Nat.gcd_pos_of_pos_right a hd
  have hge : Nat.gcd a d ≤ d := Nat.gcd_le_right a hd
  rw [if_pos (show (0 : Int32) ≤ nI a from nI_le (a := 0) (Nat.zero_le _) ha), frac_rl _ _ _ 31 a d FU hd2 (by rw [FU_eq]; decide) ha hd2]
  cases v2 with
  | true => rw [if_pos rfl, if_pos rfl, dv_ok ha hg (by omega)]
  | false => rw [if_neg Bool.false_ne_true, if_neg Bool.false_ne_true, dv_ok hd2 hg (by omega)]
theorem frac_eq {a d b e : Nat} (ha : a < 2 ^ 31) (hd : 0 < d) (hd2 : d < 2 ^ 31) (hb : b < 2 ^ 31) (he : 0 < e) (he2 : e < 2 ^ 31) (h : a * e = b * d) (v2 : Bool) : mX3_fraction (nI b) (nI e) v2 = mX4_fraction (nI a) (nI d) v2 := by
  obtain ⟨q1, q2⟩ := low_eq hd he h
  rw [frac_c hb he he2, frac_r ha hd hd2]
  cases v2 with
  | true => rw [if_pos rfl, if_pos rfl, q1]
  | false => rw [if_neg Bool.false_ne_true, if_neg Bool.false_ne_true, q2]
