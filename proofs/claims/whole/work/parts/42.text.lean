/-! the text read: a figure, a range -/
abbrev mkT (b : MO) (at_ np st ln : Int32) : MO := (b.1, b.2.1, b.2.2.1, b.2.2.2.1, b.2.2.2.2.1, at_, np, st, ln, b.2.2.2.2.2.2.2.2.2)
theorem isC_ok {q : Nat} (h : q < 256) : isC (nI q) = true := by
  unfold isC
  rw [pk_char, pk_tn (by omega), Nat.mod_eq_of_lt (by omega)]
  exact decide_eq_true rfl
theorem nI_m9 {f : Nat} (h : f < 2 ^ 31) : ¬ nI f = (-9 : Int32) := fun z => nI_pos h (by rw [z]; decide)
def lo0 (s : Nat) : Nat := if s = 0 then 0 else if s % 16 = 0 then 1 else if s % 8 = 0 then 2 else if s % 4 = 0 then 3 else if s % 2 = 0 then 4 else 5
theorem lo0_le : ∀ s, s < 32 → lo0 s ≤ 5 := by decide +kernel
theorem lo0_iff : ∀ s, s < 32 → ∀ v, v < 6 → (s % (32 / 2 ^ v) = 0 ↔ lo0 s ≤ v) := by decide +kernel
theorem isR_v {s l : Nat} (hs : s < 32) (hl : l < 6) : mX4_isRange (nI s) (nI l) = some (decide (lo0 s ≤ l)) := by
  have hz := sz_pos hl
  have hm := Nat.mod_lt s hz.1
  have hi : mX4_in (nI l).toInt64 (0 : Int64) (5 : Int64) = some (decide ((0 : Int32) ≤ nI l ∧ nI l ≤ 5)) := in_i _ 0 5
  have hj : mX4_in (nI s).toInt64 (0 : Int64) (31 : Int64) = some (decide ((0 : Int32) ≤ nI s ∧ nI s ≤ 31)) := in_i _ 0 31
  unfold mX4_isRange
  rw [hi, hj, decide_eq_true ⟨nI_le (a := 0) (Nat.zero_le _) (by omega), nI_le (b := 5) (by omega) (by decide)⟩, decide_eq_true ⟨nI_le (a := 0) (Nat.zero_le _) (by omega), nI_le (b := 31) (by omega) (by decide)⟩, Option.bind_some, if_pos rfl, Option.bind_some, if_pos rfl, sz_ok hl, Option.bind_some, rmd_ok (by omega) hz.1 (by omega)]
  by_cases q : s % (32 / 2 ^ l) = 0
  · rw [if_pos (by rw [q]; rfl), decide_eq_true ((lo0_iff s hs l hl).mp q)]
  · rw [if_neg (nI_ne0 (by omega) (by omega)), decide_eq_false (fun z => q ((lo0_iff s hs l hl).mpr z))]
theorem isR_f {v w : Int32} (h : ¬ ((0 : Int32) ≤ w ∧ w ≤ 5)) : mX4_isRange v w = some false := by
  unfold mX4_isRange
  rw [show mX4_in w.toInt64 (0 : Int64) (5 : Int64) = some (decide ((0 : Int32) ≤ w ∧ w ≤ 5)) from in_i w 0 5, decide_eq_false h]
  rfl
section TX
variable {len : Nat} {L T : Nat → Int32} {q : Nat → Nat}
theorem letter_in (hlen : len ≤ 99) (hL : ∀ j, j < len → L j = nI (q j)) (hq : ∀ j, j < len → q j < 256) {i : Nat} (hi : i < len) (x y : Int32) : mX2_letterAt (nI len, x, y) L (nI i) = some (nI (q i)) := by
  unfold mX2_letterAt
  dsimp only
  rw [if_neg (nI_pos (by omega)), if_neg (nI_ge hi (by omega)), if_neg (show ¬ (99 : Int32) ≤ nI i by rw [L99]; exact nI_ge (by omega) (by decide)), rd_ok rfl (by omega) (by decide), hL i hi, if_pos (isC_ok (hq i hi))]
theorem letter_out (hlen : len ≤ 99) {i : Nat} (hi : len ≤ i) (h2 : i < 2 ^ 31) (x y : Int32) : mX2_letterAt (nI len, x, y) L (nI i) = some 0 := by
  unfold mX2_letterAt
  dsimp only
  rw [if_neg (nI_pos (by omega)), if_pos (nI_le hi (by omega))]
theorem fig_flt {f : Nat} (hf : f < 2 ^ 31) (x y lo hi : Int32) : mX2_readFigure (x, y, nI f) L lo hi = some (lo, (x, y, nI f)) := by
  unfold mX2_readFigure
  dsimp only
  rw [if_neg (nI_m9 hf)]
theorem fig (hlen : len ≤ 99) (hL : ∀ j, j < len → L j = nI (q j)) (hT : ∀ j, j < len → T j = nI (q j)) (hq : ∀ j, j < len → q j < 256) {a : Nat} (ha : a ≤ len) (b : MO) (hb : b.1 = nI len) (np st ln : Int32) {lo hi : Nat} (hlo : lo < 2 ^ 31) (hhi : hi < 2 ^ 31) :
    (∃ k, lo ≤ k ∧ k ≤ hi ∧ a < len ∧ q a = 48 + k ∧ mX2_readFigure (nI len, nI a, (-9 : Int32)) L (nI lo) (nI hi) = some (nI k, (nI len, nI (a + 1), (-9 : Int32))) ∧ mX4_figure (mkT b (nI a) np st ln) T (nI lo) (nI hi) = some (nI k, mkT b (nI (a + 1)) np st ln)) ∨
    (mX2_readFigure (nI len, nI a, (-9 : Int32)) L (nI lo) (nI hi) = some (nI lo, (nI len, nI a, nI a)) ∧ mX4_figure (mkT b (nI a) np st ln) T (nI lo) (nI hi) = some ((-9 : Int32), mkT b (nI a) np st ln) ∧ (a = len ∨ ∀ k, lo ≤ k → k ≤ hi → q a ≠ 48 + k)) := by
  by_cases hi2 : a < len
  · have e1 : mX2_letterAt (nI len, nI a, (-9 : Int32)) L (nI a) = some (nI (q a)) := letter_in hlen hL hq hi2 _ _
    have hqa := hq a hi2
    have e2 : mX4_figure (mkT b (nI a) np st ln) T (nI lo) (nI hi) = if decide (nI lo ≤ nI (q a) - (48 : Int32) ∧ nI (q a) - (48 : Int32) ≤ nI hi) = true then some (nI (q a) - (48 : Int32), mkT b (nI (a + 1)) np st ln) else some ((-9 : Int32), mkT b (nI a) np st ln) := by
      unfold mX4_figure
      dsimp only
      rw [if_neg (show ¬ b.1 ≤ nI a by rw [hb]; exact nI_ge hi2 (by omega)), rd_ok rfl (by omega) (by decide), hT a hi2]
      unfold mX4_figure_b28
      dsimp only
      rw [in_i, Option.bind_some, nI_1]
    have e3 : mX2_readFigure (nI len, nI a, (-9 : Int32)) L (nI lo) (nI hi) = if nI (q a) - (48 : Int32) < nI lo then some (nI lo, (nI len, nI a, nI a)) else if nI (q a) - (48 : Int32) ≤ nI hi then some (nI (q a) - (48 : Int32), (nI len, nI (a + 1), (-9 : Int32))) else some (nI lo, (nI len, nI a, nI a)) := by
      unfold mX2_readFigure
      dsimp only
      rw [if_pos rfl, e1, Option.bind_some, if_neg (nI_ge hi2 (by omega)), nI_1]
    rw [e2, e3]
    by_cases q48 : q a < 48
    · have hn : nI (q a) - (48 : Int32) < 0 := pk_sneg (b := 48) (by decide) q48
      have hl0 : (0 : Int32) ≤ nI lo := nI_le (a := 0) (Nat.zero_le _) hlo
      refine Or.inr ⟨?_, ?_, Or.inr (fun k h1 h2 z => by omega)⟩
      · rw [if_pos (Int32.lt_of_lt_of_le hn hl0)]
      · rw [decide_eq_false (fun z => Int32.not_le.mpr (Int32.lt_of_lt_of_le hn hl0) z.1), if_neg Bool.false_ne_true]
    · have e48 : nI (q a) - (48 : Int32) = nI (q a - 48) := pk_sub (b := 48) (by omega)
      rw [e48]
      by_cases h1 : lo ≤ q a - 48
      · rw [if_neg (nI_nlt h1 (by omega))]
        by_cases h2 : q a - 48 ≤ hi
        · refine Or.inl ⟨q a - 48, h1, h2, hi2, by omega, ?_, ?_⟩
          · rw [if_pos (nI_le h2 hhi)]
          · rw [decide_eq_true ⟨nI_le h1 (by omega), nI_le h2 hhi⟩, if_pos rfl]
        · refine Or.inr ⟨?_, ?_, Or.inr (fun k h3 h4 z => by omega)⟩
          · rw [if_neg (nI_ge (by omega) (by omega))]
          · rw [decide_eq_false (fun z => nI_ge (a := hi) (b := q a - 48) (by omega) (by omega) z.2), if_neg Bool.false_ne_true]
      · refine Or.inr ⟨?_, ?_, Or.inr (fun k h3 h4 z => by omega)⟩
        · rw [if_pos (nI_lt (by omega) (by omega))]
        · rw [decide_eq_false (fun z => nI_ge (a := q a - 48) (b := lo) (by omega) (by omega) z.1), if_neg Bool.false_ne_true]
  · have : a = len := by omega
    subst this
    refine Or.inr ⟨?_, ?_, Or.inl rfl⟩
    · unfold mX2_readFigure
      dsimp only
      rw [if_pos rfl, letter_out hlen (Nat.le_refl _) (by omega), Option.bind_some, if_pos (nI_le (Nat.le_refl _) (by omega))]
    · unfold mX4_figure
      dsimp only
      rw [if_pos (show b.1 ≤ nI a by rw [hb]; exact nI_le (Nat.le_refl _) (by omega))]
      unfold mX4_figure_b28
      dsimp only
      rw [in_i, decide_eq_false (fun z => absurd (Int32.le_trans (nI_le (a := 0) (Nat.zero_le _) hlo) z.1) (by decide)), Option.bind_some, if_neg Bool.false_ne_true]
theorem len_l {s : Nat} (hs : s < 32) (c : I3) : ∀ (m v : Nat), v ≤ lo0 s → lo0 s - v < m → mX2_readLength_b2 c L (nI s) m (nI v) = mX2_readLength_b21 c L (nI (lo0 s)) := by
  have h5 := lo0_le s hs
  intro m
  induction m with
  | zero => intro v h1 h2; omega
  | succ m ih =>
    intro v h1 h2
    rw [mX2_readLength_b2]
    by_cases hv : 5 ≤ v
    · have : v = lo0 s := by omega
      rw [if_pos (show (5 : Int32) ≤ nI v from nI_le (a := 5) hv (by omega)), this]
    · rw [if_neg (show ¬ (5 : Int32) ≤ nI v by rw [L5]; exact nI_ge (by omega) (by decide)), left_ok hs (by omega), Option.bind_some]
      have hm : s % (32 / 2 ^ v) < 32 := Nat.lt_of_le_of_lt (Nat.mod_le _ _) hs
      by_cases z : s % (32 / 2 ^ v) = 0
      · have := (lo0_iff s hs v (by omega)).mp z
        have e : v = lo0 s := by omega
        rw [if_pos (by rw [z]; rfl), e]
      · have : ¬ lo0 s ≤ v := fun y => z ((lo0_iff s hs v (by omega)).mpr y)
        rw [if_neg (nI_ne0 (by omega) (by omega)), nI_1]
        exact ih (v + 1) (by omega) (by omega)
theorem len_c {s : Nat} (hs : s < 32) (c : I3) : mX2_readLength c L (nI s) = mX2_readFigure c L (nI (lo0 s)) (5 : Int32) := by
  unfold mX2_readLength
  rw [show mX2_readLength_b2 c L (nI s) FU (0 : Int32) = mX2_readLength_b21 c L (nI (lo0 s)) from len_l hs c FU 0 (Nat.zero_le _) (by have := lo0_le s hs; rw [FU_eq]; omega)]
  unfold mX2_readLength_b21
  cases mX2_readFigure c L (nI (lo0 s)) (5 : Int32) <;> rfl
theorem start_flt {f : Nat} (hf : f < 2 ^ 31) (x y : Int32) : mX2_readStart (x, y, nI f) L = some (nI 0, (x, y, nI f)) := by
  unfold mX2_readStart
  rw [fig_flt hf, Option.bind_some, if_neg (show ¬ (0 : Int32) = 3 by decide)]
  unfold mX2_readStart_b24
  rw [fig_flt hf, Option.bind_some]
  rfl
/-- a range read by both -/
theorem rng (hlen : len ≤ 99) (hL : ∀ j, j < len → L j = nI (q j)) (hT : ∀ j, j < len → T j = nI (q j)) (hq : ∀ j, j < len → q j < 256) {a : Nat} (ha : a ≤ len) (b : MO) (hb : b.1 = nI len) (np st ln : Int32) :
    (∃ s l p e, rgOk s l ∧ e ≤ len ∧ a < e ∧ mX2_readStart (nI len, nI a, (-9 : Int32)) L = some (nI s, (nI len, nI p, (-9 : Int32))) ∧ mX2_readLength (nI len, nI p, (-9 : Int32)) L (nI s) = some (nI l, (nI len, nI e, (-9 : Int32))) ∧ mX4_readRange (mkT b (nI a) np st ln) T = some (true, mkT b (nI e) np (nI s) (nI l))) ∨
    (∃ s l c f st' ln', s < 32 ∧ l < 6 ∧ f ≤ len ∧ mX2_readStart (nI len, nI a, (-9 : Int32)) L = some (nI s, c) ∧ mX2_readLength c L (nI s) = some (nI l, (nI len, nI f, nI f)) ∧ mX4_readRange (mkT b (nI a) np st ln) T = some (false, mkT b (nI f) np st' ln')) := by
  have fin : ∀ (x y p : Nat), x < 4 → y ≤ 9 → 10 * x + y < 32 → p ≤ len → a < p → mX2_readStart (nI len, nI a, (-9 : Int32)) L = some (nI (10 * x + y), (nI len, nI p, (-9 : Int32))) → mX4_readRange (mkT b (nI a) np st ln) T = mX4_readRange_b34 T (nI x) (nI y) (mkT b (nI p) np st ln) →
    (∃ s l p e, rgOk s l ∧ e ≤ len ∧ a < e ∧ mX2_readStart (nI len, nI a, (-9 : Int32)) L = some (nI s, (nI len, nI p, (-9 : Int32))) ∧ mX2_readLength (nI len, nI p, (-9 : Int32)) L (nI s) = some (nI l, (nI len, nI e, (-9 : Int32))) ∧ mX4_readRange (mkT b (nI a) np st ln) T = some (true, mkT b (nI e) np (nI s) (nI l))) ∨
    (∃ s l c f st' ln', s < 32 ∧ l < 6 ∧ f ≤ len ∧ mX2_readStart (nI len, nI a, (-9 : Int32)) L = some (nI s, c) ∧ mX2_readLength c L (nI s) = some (nI l, (nI len, nI f, nI f)) ∧ mX4_readRange (mkT b (nI a) np st ln) T = some (false, mkT b (nI f) np st' ln')) := by
    intro x y p hx hy hs hp hap e1 e2
    have h5 := lo0_le _ hs
    have e3 : mX4_readRange (mkT b (nI a) np st ln) T = if b.1 ≤ nI p then mX4_readRange_b81 (mkT b (nI p) np (nI (10 * x + y)) ln) T (-9) else rd T 99 (nI p) (fun x72 => mX4_readRange_b81 (mkT b (nI p) np (nI (10 * x + y)) ln) T (x72 - 48)) := by
      rw [e2]
      unfold mX4_readRange_b34
      dsimp only
      rw [if_neg (nI_m9 (by omega)), L10, pk_mul, nI_add]
    have hlc := len_c (L := L) hs (nI len, nI p, (-9 : Int32))
    rcases fig hlen hL hT hq hp b hb np st ln (lo := lo0 (10 * x + y)) (hi := 5) (by omega) (by decide) with ⟨k, k1, k2, k3, k4, k5, _⟩ | ⟨k1, _, k3⟩
    · refine Or.inl ⟨10 * x + y, k, p, p + 1, ⟨by omega, hs, (lo0_iff _ hs k (by omega)).mpr k1⟩, k3, by omega, e1, hlc.trans k5, ?_⟩
      rw [e3, if_neg (show ¬ b.1 ≤ nI p by rw [hb]; exact nI_ge k3 (by omega)), rd_ok rfl (by omega) (by decide), hT p k3, k4, show nI (48 + k) - (48 : Int32) = nI (48 + k - 48) from pk_sub (b := 48) (by omega), show 48 + k - 48 = k by omega]
      unfold mX4_readRange_b81
      dsimp only
      rw [isR_v hs (by omega), decide_eq_true k1, Option.bind_some, if_pos rfl, nI_1]
    · refine Or.inr ⟨10 * x + y, lo0 (10 * x + y), (nI len, nI p, (-9 : Int32)), p, nI (10 * x + y), ln, hs, by omega, hp, e1, hlc.trans k1, ?_⟩
      rw [e3]
      by_cases hpl : p < len
      · rw [if_neg (show ¬ b.1 ≤ nI p by rw [hb]; exact nI_ge hpl (by omega)), rd_ok rfl (by omega) (by decide), hT p hpl]
        unfold mX4_readRange_b81
        dsimp only
        have hne : ∀ k, lo0 (10 * x + y) ≤ k → k ≤ 5 → q p ≠ 48 + k := by
          rcases k3 with z | z
          · omega
          · exact z
        have hqp := hq p hpl
        have : mX4_isRange (nI (10 * x + y)) (nI (q p) - (48 : Int32)) = some false := by
          by_cases q48 : q p < 48
          · exact isR_f (fun z => absurd (pk_sneg (b := 48) (by decide) q48) (Int32.not_lt.mpr z.1))
          · rw [show nI (q p) - (48 : Int32) = nI (q p - 48) from pk_sub (b := 48) (by omega)]
            by_cases h6 : q p - 48 < 6
            · rw [isR_v hs h6, decide_eq_false (fun z => hne (q p - 48) z (by omega) (by omega))]
            · exact isR_f (fun z => nI_ge (a := 5) (b := q p - 48) (by omega) (by omega) z.2)
        rw [this, Option.bind_some, if_neg Bool.false_ne_true]
      · rw [if_pos (show b.1 ≤ nI p by rw [hb]; exact nI_le (by omega) (by omega))]
        unfold mX4_readRange_b81
        dsimp only
        rw [isR_f (by decide), Option.bind_some, if_neg Bool.false_ne_true]
  rcases fig hlen hL hT hq ha b hb np st ln (lo := 0) (hi := 3) (by decide) (by decide) with ⟨x, x1, x2, x3, x4, x5, x6⟩ | ⟨x1, x2, _⟩
  · have hx5 : mX2_readFigure (nI len, nI a, (-9 : Int32)) L (0 : Int32) (3 : Int32) = some (nI x, (nI len, nI (a + 1), (-9 : Int32))) := x5
    have hx6 : mX4_figure (mkT b (nI a) np st ln) T (0 : Int32) (3 : Int32) = some (nI x, mkT b (nI (a + 1)) np st ln) := x6
    have main : ∀ h : Nat, h ≤ 9 → (x = 3 → h = 1) → (mX2_readStart (nI len, nI a, (-9 : Int32)) L = mX2_readStart_b24 (nI len, nI (a + 1), (-9 : Int32)) L (nI h) false (nI x * (10 : Int32))) → (mX4_readRange (mkT b (nI a) np st ln) T = mX4_readRange_b31 (mkT b (nI (a + 1)) np st ln) T (nI x) (nI h) false) →
      (∃ s l p e, rgOk s l ∧ e ≤ len ∧ a < e ∧ mX2_readStart (nI len, nI a, (-9 : Int32)) L = some (nI s, (nI len, nI p, (-9 : Int32))) ∧ mX2_readLength (nI len, nI p, (-9 : Int32)) L (nI s) = some (nI l, (nI len, nI e, (-9 : Int32))) ∧ mX4_readRange (mkT b (nI a) np st ln) T = some (true, mkT b (nI e) np (nI s) (nI l))) ∨
      (∃ s l c f st' ln', s < 32 ∧ l < 6 ∧ f ≤ len ∧ mX2_readStart (nI len, nI a, (-9 : Int32)) L = some (nI s, c) ∧ mX2_readLength c L (nI s) = some (nI l, (nI len, nI f, nI f)) ∧ mX4_readRange (mkT b (nI a) np st ln) T = some (false, mkT b (nI f) np st' ln')) := by
      intro h h9 h3 c1 r1
      unfold mX2_readStart_b24 at c1
      unfold mX4_readRange_b31 at r1
      rcases fig hlen hL hT hq (show a + 1 ≤ len by omega) b hb np st ln (lo := 0) (hi := h) (by decide) (by omega) with ⟨y, y1, y2, y3, y4, y5, y6⟩ | ⟨y1, y2, _⟩
      · have hy5 : mX2_readFigure (nI len, nI (a + 1), (-9 : Int32)) L (b2i false) (nI h) = some (nI y, (nI len, nI (a + 1 + 1), (-9 : Int32))) := y5
        have hy6 : mX4_figure (mkT b (nI (a + 1)) np st ln) T (b2i false) (nI h) = some (nI y, mkT b (nI (a + 1 + 1)) np st ln) := y6
        rw [hy5, Option.bind_some, L10, pk_mul, nI_add, Nat.mul_comm] at c1
        rw [hy6, Option.bind_some] at r1
        exact fin x y (a + 1 + 1) (by omega) (by omega) (by omega) (by omega) (by omega) c1 r1
      · have hy1 : mX2_readFigure (nI len, nI (a + 1), (-9 : Int32)) L (b2i false) (nI h) = some (nI 0, (nI len, nI (a + 1), nI (a + 1))) := y1
        have hy2 : mX4_figure (mkT b (nI (a + 1)) np st ln) T (b2i false) (nI h) = some ((-9 : Int32), mkT b (nI (a + 1)) np st ln) := y2
        rw [hy1, Option.bind_some, L10, pk_mul, nI_add, Nat.mul_comm, Nat.add_zero] at c1
        rw [hy2, Option.bind_some] at r1
        refine Or.inr ⟨10 * x, lo0 (10 * x), (nI len, nI (a + 1), nI (a + 1)), a + 1, st, ln, by omega, by have := lo0_le (10 * x) (by omega); omega, by omega, c1, ?_, ?_⟩
        · rw [len_c (by omega), fig_flt (by omega)]
        · rw [r1]
          unfold mX4_readRange_b34
          rw [if_pos rfl]
    by_cases h3 : x = 3
    · subst h3
      refine main 1 (by decide) (fun _ => rfl) ?_ ?_
      · unfold mX2_readStart
        rw [hx5, Option.bind_some, if_pos (show nI 3 = (3 : Int32) from rfl)]
        rfl
      · unfold mX4_readRange
        rw [hx6, Option.bind_some, if_neg (show ¬ nI 3 = (-9 : Int32) by decide), if_pos (show nI 3 = (3 : Int32) from rfl)]
        rfl
    · have n3 : ¬ nI x = (3 : Int32) := fun z => h3 ((nI_eq (b := 3) (by omega) (by decide)).mp z)
      refine main 9 (by decide) (fun z => absurd z h3) ?_ ?_
      · unfold mX2_readStart
        rw [hx5, Option.bind_some, if_neg n3]
        rfl
      · unfold mX4_readRange
        rw [hx6, Option.bind_some, if_neg (nI_m9 (by omega)), if_neg n3]
        rfl
  · have hx1 : mX2_readFigure (nI len, nI a, (-9 : Int32)) L (0 : Int32) (3 : Int32) = some (nI 0, (nI len, nI a, nI a)) := x1
    have hx2 : mX4_figure (mkT b (nI a) np st ln) T (0 : Int32) (3 : Int32) = some ((-9 : Int32), mkT b (nI a) np st ln) := x2
    refine Or.inr ⟨0, lo0 0, (nI len, nI a, nI a), a, st, ln, by decide, by decide, ha, ?_, ?_, ?_⟩
    · unfold mX2_readStart
      rw [hx1, Option.bind_some, if_neg (show ¬ nI 0 = (3 : Int32) by decide)]
      unfold mX2_readStart_b24
      rw [fig_flt (by omega), Option.bind_some]
      rfl
    · rw [len_c (by decide), fig_flt (by omega)]
    · unfold mX4_readRange
      rw [hx2, Option.bind_some, if_pos rfl]
      unfold mX4_readRange_b34
      rw [if_pos rfl]
end TX
