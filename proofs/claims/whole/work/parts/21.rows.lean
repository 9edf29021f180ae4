/-! rows of numbers: RowsIs lim w n cell o a: o, a hold n rows of w columns, cell by cell -/
def RowsIs (lim w n : Nat) (cell : Nat → Nat → Int32) (o : I3) (a : Ar) : Prop :=
  o = (nI lim, nI w, nI n) ∧ n ≤ lim ∧ lim ≤ 20 ∧ 0 < w ∧ w ≤ 20 ∧ a.1 = lim * w ∧ ∀ i, i < n → ∀ c, c < w → a.2 (i * w + c) = cell i c
/-- rows of that shape, whatever they hold -/
def RowsSh (lim w : Nat) (o : I3) (a : Ar) : Prop := o.1 = nI lim ∧ o.2.1 = nI w ∧ lim ≤ 20 ∧ 0 < w ∧ w ≤ 20 ∧ a.1 = lim * w
theorem RowsIs.sh {lim w n : Nat} {cell : Nat → Nat → Int32} {o : I3} {a : Ar} (h : RowsIs lim w n cell o a) : RowsSh lim w o a := by
  obtain ⟨rfl, h1, h2, h3, h4, h5, h6⟩ := h
  exact ⟨rfl, rfl, h2, h3, h4, h5⟩
theorem RowsIs.cong {lim w n : Nat} {cell cell' : Nat → Nat → Int32} {o : I3} {a : Ar} (h : RowsIs lim w n cell o a) (hc : ∀ i, i < n → ∀ c, c < w → cell i c = cell' i c) : RowsIs lim w n cell' o a := by
  obtain ⟨h0, h1, h2, h3, h4, h5, h6⟩ := h
  exact ⟨h0, h1, h2, h3, h4, h5, fun i hi c hcw => (h6 i hi c hcw).trans (hc i hi c hcw)⟩
theorem RowsIs.cnt {lim w n : Nat} {cell : Nat → Nat → Int32} {o : I3} {a : Ar} (h : RowsIs lim w n cell o a) : o.2.2 = nI n := by rw [h.1]
theorem ix_lt {i n w c : Nat} (hi : i < n) (hc : c < w) : i * w + c < n * w := by
  have h := Nat.mul_le_mul_right w (show i + 1 ≤ n from hi)
  rw [Nat.succ_mul] at h
  omega
theorem ix_b {lim w : Nat} (h1 : lim ≤ 20) (h2 : w ≤ 20) : lim * w ≤ 400 := Nat.mul_le_mul h1 h2
theorem ix_le {a b w : Nat} (h : a ≤ b) : a * w ≤ b * w := Nat.mul_le_mul_right w h
theorem ix_ne {i j w c d : Nat} (hc : c < w) (hd : d < w) (h : i * w + c = j * w + d) : i = j ∧ c = d := by
  rcases Nat.lt_trichotomy i j with q | q | q
  · have := ix_lt q hc; omega
  · subst q; exact ⟨rfl, by omega⟩
  · have := ix_lt q hd; omega
theorem has_ok {lim w n : Nat} {cell : Nat → Nat → Int32} {o : I3} {a : Ar} (h : RowsIs lim w n cell o a) (i : Nat) (hi : i < 2 ^ 31) : mX1_has o (nI i) = some (decide (i < n)) := by
  obtain ⟨rfl, h1, h2, h3, h4, h5, h6⟩ := h
  unfold mX1_has
  dsimp only
  rw [if_neg (nI_pos hi)]
  by_cases q : i < n
  · rw [if_neg (nI_ge q (by omega)), decide_eq_true q]
  · rw [if_pos (nI_le (by omega) hi), decide_eq_false q]
theorem has_neg {o : I3} {v : Int32} (h : v < 0) : mX1_has o v = some false := by
  unfold mX1_has
  rw [if_pos h]
/-- an index that a caller hands over: one of the n, or none -/
theorem has_any {lim w n : Nat} {cell : Nat → Nat → Int32} {o : I3} {a : Ar} (h : RowsIs lim w n cell o a) (v : Int32) : (mX1_has o v = some false ∧ ∀ i, i < n → v ≠ nI i) ∨ ∃ i, i < n ∧ v = nI i ∧ mX1_has o v = some true := by
  by_cases h0 : v < 0
  · exact Or.inl ⟨has_neg h0, fun i hi e => nI_pos (n := i) (by have := h.2.1; have := h.2.2.1; omega) (e ▸ h0)⟩
  · obtain ⟨j, hj, rfl⟩ := nI_of h0
    rw [has_ok h j hj]
    by_cases q : j < n
    · exact Or.inr ⟨j, q, rfl, by rw [decide_eq_true q]⟩
    · exact Or.inl ⟨by rw [decide_eq_false q], fun i hi e => q (by rw [nI_eq hj (by have := h.2.1; have := h.2.2.1; omega)] at e; omega)⟩
theorem at_ok {lim w n : Nat} {cell : Nat → Nat → Int32} {o : I3} {a : Ar} (h : RowsIs lim w n cell o a) {i c : Nat} (hi : i < n) (hc : c < w) : mX1_at o a (nI i) (nI c) = some (cell i c) := by
  obtain ⟨rfl, h1, h2, h3, h4, h5, h6⟩ := h
  have hb := ix_b h2 h4
  have hx := ix_lt hi hc
  have hy := ix_le (w := w) h1
  unfold mX1_at
  dsimp only
  rw [if_neg (nI_pos (by omega)), if_neg (nI_ge hi (by omega)), if_neg (nI_pos (by omega)), if_pos (nI_lt hc (by omega)), pk_mul, nI_add, h5, rd_ok rfl (by omega) (by omega), h6 i hi c hc]
theorem put_ok {lim w n : Nat} {cell : Nat → Nat → Int32} {o : I3} {a : Ar} (h : RowsIs lim w n cell o a) {i c : Nat} (hi : i < n) (hc : c < w) (v : Int32) : ∃ a', mX1_put o a (nI i) (nI c) v = some a' ∧ RowsIs lim w n (fun j d => if j = i ∧ d = c then v else cell j d) o a' := by
  obtain ⟨rfl, h1, h2, h3, h4, h5, h6⟩ := h
  have hb := ix_b h2 h4
  have hx := ix_lt hi hc
  have hy := ix_le (w := w) h1
  refine ⟨(a.1, upd a.2 (i * w + c) v), ?_, rfl, h1, h2, h3, h4, h5, fun j hj d hd => ?_⟩
  · unfold mX1_put
    dsimp only
    rw [if_neg (nI_pos (by omega)), if_neg (nI_ge hi (by omega)), if_neg (nI_pos (by omega)), if_neg (nI_ge hc (by omega)), pk_mul, nI_add, wr_ok rfl (by omega) (by omega)]
  · (try dsimp only)
    by_cases q : j = i ∧ d = c
    · obtain ⟨rfl, rfl⟩ := q
      rw [if_pos ⟨rfl, rfl⟩, pk_us]
    · rw [if_neg q, pk_un (fun e => q (ix_ne hd hc e)), h6 j hj d hd]
theorem put_out {lim w n : Nat} {cell : Nat → Nat → Int32} {o : I3} {a : Ar} (h : RowsIs lim w n cell o a) {i c : Nat} (hi : i < n) (hc : w ≤ c) (hc2 : c < 2 ^ 31) (v : Int32) : mX1_put o a (nI i) (nI c) v = some a := by
  obtain ⟨rfl, h1, h2, h3, h4, h5, h6⟩ := h
  unfold mX1_put
  dsimp only
  rw [if_neg (nI_pos (by omega)), if_neg (nI_ge hi (by omega)), if_neg (nI_pos (by omega)), if_pos (nI_le hc hc2)]
theorem open_ok {lim w n : Nat} {cell : Nat → Nat → Int32} {o : I3} {a : Ar} (h : RowsIs lim w n cell o a) {i : Nat} (hi : i ≤ n) (hn : n < lim) : ∃ o' a' cell', mX1_openAt o a (nI i) = some (o', a') ∧ RowsIs lim w (n + 1) cell' o' a' ∧ (∀ j, j < i → ∀ c, c < w → cell' j c = cell j c) ∧ ∀ j, i < j → j < n + 1 → ∀ c, c < w → cell' j c = cell (j - 1) c := by
  obtain ⟨rfl, h1, h2, h3, h4, h5, h6⟩ := h
  have hb := ix_b h2 h4
  have hy := ix_le (w := w) hi
  have hz := ix_le (w := w) (show n + 1 ≤ lim from hn)
  have e1 : (n - i) * w = n * w - i * w := Nat.sub_mul n i w
  have e2 : (i + 1) * w = i * w + w := Nat.succ_mul i w
  have e3 : (n + 1) * w = n * w + w := Nat.succ_mul n w
  refine ⟨(nI lim, nI w, nI (n + 1)), (a.1, va_cpy a.2 a.2 (i * w) ((i + 1) * w) ((n - i) * w)), fun j c => va_cpy a.2 a.2 (i * w) ((i + 1) * w) ((n - i) * w) (j * w + c), ?_, ⟨rfl, hn, h2, h3, h4, h5, fun j hj c hc => rfl⟩, fun j hj c hc => ?_, fun j hj hj2 c hc => ?_⟩
  · unfold mX1_openAt
    dsimp only
    rw [if_neg (nI_pos (by omega)), if_neg (nI_nlt hi (by omega)), if_pos (nI_lt hn (by omega)), pk_sub hi, L1, nI_add, pk_mul, pk_mul, pk_mul, nI_add, acp_ok rfl rfl rfl (by omega) (by omega) (by omega) (by omega)]
  · have hx := ix_lt (w := w) hj hc
    dsimp only
    rw [pk_cpy_out (Or.inl (by omega)), h6 j (by omega) c hc]
  · have hx := ix_le (w := w) (show i + 1 ≤ j from hj)
    have hx2 := ix_lt (show j < n + 1 from hj2) hc
    have e4 : (j - 1) * w = j * w - w := by rw [Nat.sub_mul, Nat.one_mul]
    dsimp only
    rw [pk_cpy_in (by omega) (by omega), show i * w + (j * w + c - (i + 1) * w) = (j - 1) * w + c by omega, h6 (j - 1) (by omega) c hc]
theorem close_ok {lim w n : Nat} {cell : Nat → Nat → Int32} {o : I3} {a : Ar} (h : RowsIs lim w n cell o a) {i : Nat} (hi : i < n) : ∃ o' a', mX1_closeAt o a (nI i) = some (o', a') ∧ RowsIs lim w (n - 1) (fun j c => if j < i then cell j c else cell (j + 1) c) o' a' := by
  obtain ⟨rfl, h1, h2, h3, h4, h5, h6⟩ := h
  have hb := ix_b h2 h4
  have hy := ix_le (w := w) (show i + 1 ≤ n from hi)
  have hz := ix_le (w := w) h1
  have e1 : (n - 1 - i) * w = n * w - w - i * w := by rw [Nat.sub_mul, Nat.sub_mul, Nat.one_mul]
  have e2 : (i + 1) * w = i * w + w := Nat.succ_mul i w
  refine ⟨(nI lim, nI w, nI (n - 1)), (a.1, va_cpy a.2 a.2 ((i + 1) * w) (i * w) ((n - 1 - i) * w)), ?_, rfl, by omega, h2, h3, h4, h5, fun j hj c hc => ?_⟩
  · unfold mX1_closeAt
    dsimp only
    rw [if_neg (nI_pos (by omega)), if_pos (nI_lt hi (by omega)), L1, nI_add, pk_sub (by omega), pk_sub (by omega), pk_mul, pk_mul, pk_mul, acp_ok rfl rfl rfl (by omega) (by omega) (by omega) (by omega)]
  · (try dsimp only)
    by_cases q : j < i
    · have hx := ix_lt (w := w) q hc
      rw [if_pos q, pk_cpy_out (Or.inl (by omega)), h6 j (by omega) c hc]
    · have hx := ix_le (w := w) (show i ≤ j by omega)
      have hx2 := ix_lt (show j < n - 1 from hj) hc
      have e3 : (n - 1) * w = n * w - w := by rw [Nat.sub_mul, Nat.one_mul]
      have e4 : (j + 1) * w = j * w + w := Nat.succ_mul j w
      rw [if_neg q, pk_cpy_in (by omega) (by omega), show (i + 1) * w + (j * w + c - i * w) = (j + 1) * w + c by omega, h6 (j + 1) (by omega) c hc]
theorem copy_ok {lim lim' w n : Nat} {cell : Nat → Nat → Int32} {o o' : I3} {a a' : Ar} (h : RowsIs lim w n cell o a) (h' : RowsSh lim' w o' a') (hn : n ≤ lim') : ∃ o2 a2, mX1_copyFrom o' o a a' = some (o2, a2) ∧ RowsIs lim' w n cell o2 a2 := by
  obtain ⟨rfl, h1, h2, h3, h4, h5, h6⟩ := h
  obtain ⟨g1, g2, g3, g4, g5, g6⟩ := h'
  have hb := ix_b h2 h4
  have hb2 := ix_b g3 h4
  have hz := ix_le (w := w) h1
  have hz2 := ix_le (w := w) hn
  refine ⟨(nI lim', nI w, nI n), (a'.1, va_cpy a.2 a'.2 0 0 (n * w)), ?_, rfl, hn, g3, h3, h4, g6, fun j hj c hc => ?_⟩
  · unfold mX1_copyFrom
    dsimp only
    rw [g1, g2, if_pos rfl, if_pos (nI_le hn (by omega)), pk_mul, acp_ok L0 L0 rfl (by omega) (by omega) (by omega) (by omega)]
  · have hx := ix_lt hj hc
    dsimp only
    rw [pk_cpy_in (by omega) (by omega), show 0 + (j * w + c - 0) = j * w + c by omega, h6 j hj c hc]
/-- the places of a RANGE as bits, by the class's own words -/
def cov (s l : Nat) : Int32 := if l = 0 then (-1 : Int32) else ((((1 : Int32) <<< (((32 : Int32) >>> (nI l &&& 31)) &&& 31)) - (1 : Int32)) <<< (nI s &&& 31))
theorem cov_ok {s l : Nat} (hl : l < 2 ^ 31) : mX3_coverOf (nI s) (nI l) = some (cov s l) := by
  unfold mX3_coverOf cov
  by_cases h : l = 0
  · subst h
    rw [if_pos (show nI 0 = 0 from rfl), if_pos rfl]
  · rw [if_neg (nI_ne0 (by omega) hl), if_neg h]
def cel6 (a b c d e f : Int32) (k : Nat) : Int32 := if k = 0 then a else if k = 1 then b else if k = 2 then c else if k = 3 then d else if k = 4 then e else f
theorem add_ok {lim w n : Nat} {cell : Nat → Nat → Int32} {o : I3} {a : Ar} (h : RowsIs lim w n cell o a) (hn : n < lim) (hw : 4 ≤ w) (hw6 : w ≤ 6) (s l : Nat) (hl : l < 2 ^ 31) (x y z : Int32) : ∃ o' a', mX1_addRange o a (nI s) (nI l) x y z = some (nI n, o', a') ∧ RowsIs lim w (n + 1) (fun j c => if j = n then cel6 (nI s) (nI l) (cov s l) x y z c else cell j c) o' a' := by
  obtain ⟨o1, a1, c1, e1, r1, k1, -⟩ := open_ok h (Nat.le_refl n) hn
  obtain ⟨a2, e2, r2⟩ := put_ok r1 (i := n) (c := 0) (by omega) (by omega) (nI s)
  obtain ⟨a3, e3, r3⟩ := put_ok r2 (i := n) (c := 1) (by omega) (by omega) (nI l)
  obtain ⟨a4, e4, r4⟩ := put_ok r3 (i := n) (c := 2) (by omega) (by omega) (cov s l)
  obtain ⟨a5, e5, r5⟩ := put_ok r4 (i := n) (c := 3) (by omega) (by omega) x
  obtain ⟨a6, c6, e6, r6, k6, q6⟩ : ∃ a6 c6, mX1_put o1 a5 (nI n) (4 : Int32) y = some a6 ∧ RowsIs lim w (n + 1) c6 o1 a6 ∧ (∀ j c, ¬ (j = n ∧ c = 4) → c6 j c = (if j = n ∧ c = 3 then x else if j = n ∧ c = 2 then cov s l else if j = n ∧ c = 1 then nI l else if j = n ∧ c = 0 then nI s else c1 j c)) ∧ (4 < w → c6 n 4 = y) := by
    by_cases q : 4 < w
    · obtain ⟨a6, e6, r6⟩ := put_ok r5 (i := n) (c := 4) (by omega) q y
      exact ⟨a6, _, e6, r6, fun j c hne => by (try dsimp only); rw [if_neg hne], fun _ => by simp⟩
    · exact ⟨a5, _, put_out r5 (i := n) (c := 4) (by omega) (by omega) (by decide) y, r5, fun j c _ => rfl, fun q2 => absurd q2 q⟩
  obtain ⟨a7, c7, e7, r7, k7, q7⟩ : ∃ a7 c7, mX1_put o1 a6 (nI n) (5 : Int32) z = some a7 ∧ RowsIs lim w (n + 1) c7 o1 a7 ∧ (∀ j c, ¬ (j = n ∧ c = 5) → c7 j c = c6 j c) ∧ (5 < w → c7 n 5 = z) := by
    by_cases q : 5 < w
    · obtain ⟨a7, e7, r7⟩ := put_ok r6 (i := n) (c := 5) (by omega) q z
      exact ⟨a7, _, e7, r7, fun j c hne => by (try dsimp only); rw [if_neg hne], fun _ => by simp⟩
    · exact ⟨a6, _, put_out r6 (i := n) (c := 5) (by omega) (by omega) (by decide) z, r6, fun j c _ => rfl, fun q2 => absurd q2 q⟩
  refine ⟨o1, a7, ?_, r7.cong (fun j hj c hc => ?_)⟩
  · unfold mX1_addRange
    rw [h.cnt, e1]
    simp only [Option.bind_some]
    rw [show (0 : Int32) = nI 0 from rfl, e2]
    simp only [Option.bind_some]
    rw [show (1 : Int32) = nI 1 from rfl, e3]
    simp only [Option.bind_some]
    rw [cov_ok hl]
    simp only [Option.bind_some]
    rw [show (2 : Int32) = nI 2 from rfl, e4]
    simp only [Option.bind_some]
    rw [show (3 : Int32) = nI 3 from rfl, e5]
    simp only [Option.bind_some]
    rw [e6]
    simp only [Option.bind_some]
    rw [e7]
    simp only [Option.bind_some]
  · (try dsimp only)
    by_cases hjn : j = n
    · subst hjn
      rw [if_pos rfl]
      rcases (show c = 0 ∨ c = 1 ∨ c = 2 ∨ c = 3 ∨ c = 4 ∨ c = 5 by omega) with rfl | rfl | rfl | rfl | rfl | rfl
      · rw [k7 _ _ (by omega), k6 _ _ (by omega)]; simp [cel6]
      · rw [k7 _ _ (by omega), k6 _ _ (by omega)]; simp [cel6]
      · rw [k7 _ _ (by omega), k6 _ _ (by omega)]; simp [cel6]
      · rw [k7 _ _ (by omega), k6 _ _ (by omega)]; simp [cel6]
      · rw [k7 _ _ (by omega), q6 hc]; simp [cel6]
      · rw [q7 hc]; simp [cel6]
    · rw [if_neg hjn, k7 _ _ (by omega), k6 _ _ (by omega)]
      rw [if_neg (by omega), if_neg (by omega), if_neg (by omega), if_neg (by omega), k1 j (by omega) c hc]
