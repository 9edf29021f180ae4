/-! the class's cells and the reference's, both tied to the same plain state -/
def bkOk (np : Nat) (b : Bk) : Prop := b.1.length ≤ 8 ∧ b.2.1.length ≤ 6 ∧ (∀ k, k < b.1.length → gOk np (gA b.1 k)) ∧ (∀ k, k < b.2.1.length → rOk (rA b.2.1 k)) ∧ b.2.2.2.2 ≤ 9
def BooksIs (b : Bk) (bo go : I3) (ga : Ar) (ro : I3) (ra : Ar) : Prop := bo = (b.2.2.1, b.2.2.2.1, nI b.2.2.2.2) ∧ GrC b.1 go ga ∧ RtC b.2.1 ro ra
def BooksSh (go : I3) (ga : Ar) (ro : I3) (ra : Ar) : Prop := RowsSh 8 6 go ga ∧ RowsSh 7 4 ro ra
def RowIs (b : Bk) (f : Nat → Int32) : Prop := RowR b.1 b.2.1 b.2.2.1 b.2.2.2.1 b.2.2.2.2 f
def SlotC (k : Option Bk) (bo go : I3) (ga : Ar) (ro : I3) (ra : Ar) : Prop := BooksSh go ga ro ra ∧ ∀ b, k = some b → BooksIs b bo go ga ro ra
def b0 : Bk := ([], [], 0, 0, 0)
def hA (hs : List Bk) (j : Nat) : Bk := hs.getD j b0
/-- the state ahead of act j; behind all, the state now -/
def stA (hs : List Bk) (bk : Bk) (j : Nat) : Bk := if j < hs.length then hA hs j else bk
/-- what an act's row says of the state behind it and the one ahead of it -/
def ActIs (c : Nat → Int32) (aft bef : Bk) : Prop :=
  (c 0 = 1 ∧ c 1 = nI bef.2.1.length ∧ ∃ x, aft = (bef.1, bef.2.1 ++ [x], bef.2.2)) ∨
  (c 0 = 2 ∧ ∃ k, k < bef.2.1.length ∧ c 1 = nI k ∧ (∀ d, d < 4 → c (2 + d) = rcell (rA bef.2.1 k) d) ∧ aft = (bef.1, bef.2.1.eraseIdx k, bef.2.2)) ∨
  (c 0 = 3 ∧ c 1 = nI bef.1.length ∧ ∃ x, aft = (bef.1 ++ [x], bef.2)) ∨
  (c 0 = 4 ∧ ∃ k, k < bef.1.length ∧ c 1 = nI k ∧ (∀ d, d < 6 → c (2 + d) = gcell (gA bef.1 k) d) ∧ aft = (bef.1.eraseIdx k, bef.2)) ∨
  (c 0 = 5 ∧ ∃ k, k < 6 ∧ c 1 = nI k ∧ aft = (bef.1, bef.2.1, bef.2.2.1 ^^^ ((1 : Int32) <<< (nI k &&& 31)), bef.2.2.2)) ∨
  (c 0 = 6 ∧ aft = (bef.1, bef.2.1, bef.2.2.1, bef.2.2.2.1, bef.2.2.2.2 + 1)) ∨
  (c 0 = 7 ∧ ∃ k, k < 6 ∧ c 1 = nI k ∧ aft = (bef.1, bef.2.1, bef.2.2.1, bef.2.2.2.1 ^^^ ((1 : Int32) <<< (nI k &&& 31)), bef.2.2.2.2))
def ActsC (bk : Bk) (hs : List Bk) (o : I3) (a : Ar) : Prop := ∃ cell, RowsIs 14 8 hs.length cell o a ∧ ∀ j, j < hs.length → ActIs (cell j) (stA hs bk (j + 1)) (hA hs j)
def DiaryR (hs : List Bk) (nx : Nat) (f : Nat → Int32) : Prop := ∀ j, j < hs.length → RowIs (hA hs j) (fun k => f (66 * ((nx + 14 - hs.length + j) % 14) + k))
def KeptR (k0 k1 : Option Bk) (z f : Nat → Int32) : Prop := z 0 = b2i k0.isSome ∧ z 1 = b2i k1.isSome ∧ (∀ b, k0 = some b → RowIs b (fun j => f (66 * 0 + j))) ∧ ∀ b, k1 = some b → RowIs b (fun j => f (66 * 1 + j))
def SeenR (sn : List SN) (f : Nat → Int32) : Prop := ∀ i, i < sn.length → f (4 * i) = nI (qA sn i).1 ∧ f (4 * i + 1) = nI (qA sn i).2.1 ∧ f (4 * i + 2) = nI (qA sn i).2.2.1 ∧ f (4 * i + 3) = nI (qA sn i).2.2.2
def kmask (k0 k1 : Option Bk) : Int32 := nI ((if k0.isSome = true then 1 else 0) + (if k1.isSome = true then 2 else 0))
/-- a state as calls can bring it about -/
def WF (P : List PN) (bk : Bk) (hs : List Bk) (k0 k1 : Option Bk) (sn : List SN) (t : Nat → Int32) (len nx : Nat) : Prop :=
  PLok P ∧ bkOk P.length bk ∧ hs.length ≤ 14 ∧ (∀ j, j < hs.length → bkOk P.length (hA hs j)) ∧ (∀ b, k0 = some b → bkOk P.length b) ∧ (∀ b, k1 = some b → bkOk P.length b) ∧ sn.length ≤ 6 ∧ (∀ k, k < sn.length → sOk (qA sn k)) ∧ len ≤ 99 ∧ (∀ j, j < len → ∃ q, q < 256 ∧ t j = nI q) ∧ nx < 14
def CR (P : List PN) (bk : Bk) (hs : List Bk) (k0 k1 : Option Bk) (sn : List SN) (t : Nat → Int32) (len : Nat) (s_x : Int32 × Int64) (s_x_papers : Int32 × Int32 × Int32) (s_x_papers_cells : Ar) (s_x_now : Int32 × Int32 × Int32) (s_x_now_grants : Int32 × Int32 × Int32) (s_x_now_grants_cells : Ar) (s_x_now_routes : Int32 × Int32 × Int32) (s_x_now_routes_cells : Ar) (s_x_trial : Int32 × Int32 × Int32) (s_x_trial_grants : Int32 × Int32 × Int32) (s_x_trial_grants_cells : Ar) (s_x_trial_routes : Int32 × Int32 × Int32) (s_x_trial_routes_cells : Ar) (s_x_firstSlot : Int32 × Int32 × Int32) (s_x_firstSlot_grants : Int32 × Int32 × Int32) (s_x_firstSlot_grants_cells : Ar) (s_x_firstSlot_routes : Int32 × Int32 × Int32) (s_x_firstSlot_routes_cells : Ar) (s_x_secondSlot : Int32 × Int32 × Int32) (s_x_secondSlot_grants : Int32 × Int32 × Int32) (s_x_secondSlot_grants_cells : Ar) (s_x_secondSlot_routes : Int32 × Int32 × Int32) (s_x_secondSlot_routes_cells : Ar) (s_x_acts : Int32 × Int32 × Int32) (s_x_acts_cells : Ar) (s_x_seen : Int32 × Int32 × Int32) (s_x_seen_cells : Ar) (s_x_text : Int32 × Int32 × Int32) (s_x_text_letters : Nat → Int32) (s_x_text_papers : Int32 × Int32 × Int32) (s_x_text_papers_cells : Ar) (s_x_text_grants : Int32 × Int32 × Int32) (s_x_text_grants_cells : Ar) (s_x_text_routes : Int32 × Int32 × Int32) (s_x_text_routes_cells : Ar) (s_x_doings : Nat → Int32) : Prop :=
  PapC P s_x_papers s_x_papers_cells ∧ BooksIs bk s_x_now s_x_now_grants s_x_now_grants_cells s_x_now_routes s_x_now_routes_cells ∧ BooksSh s_x_trial_grants s_x_trial_grants_cells s_x_trial_routes s_x_trial_routes_cells ∧ SlotC k0 s_x_firstSlot s_x_firstSlot_grants s_x_firstSlot_grants_cells s_x_firstSlot_routes s_x_firstSlot_routes_cells ∧ SlotC k1 s_x_secondSlot s_x_secondSlot_grants s_x_secondSlot_grants_cells s_x_secondSlot_routes s_x_secondSlot_routes_cells ∧ ActsC bk hs s_x_acts s_x_acts_cells ∧ SeC sn s_x_seen s_x_seen_cells ∧ (s_x_text.1 = nI len ∧ ∀ j, j < len → s_x_text_letters j = t j) ∧ (RowsSh 6 5 s_x_text_papers s_x_text_papers_cells ∧ RowsSh 8 6 s_x_text_grants s_x_text_grants_cells ∧ RowsSh 6 4 s_x_text_routes s_x_text_routes_cells) ∧ s_x.1 = kmask k0 k1
def RR (P : List PN) (bk : Bk) (hs : List Bk) (k0 k1 : Option Bk) (sn : List SN) (t : Nat → Int32) (len nx : Nat) (seed : Int64) (s_m : Int32 × Int32 × Int32 × Int32 × Int32 × Int32 × Int32 × Int32 × Int32 × Int64) (s_m_text : Nat → Int32) (s_m_paper : Nat → Int32) (s_m_now : Nat → Int32) (s_m_trial : Nat → Int32) (s_m_diary : Nat → Int32) (s_m_kept : Nat → Int32) (s_m_isKept : Nat → Int32) (s_m_seenAt : Nat → Int32) (s_m_worth : Nat → Int32) (s_m_readPaper : Nat → Int32) (s_m_read : Nat → Int32) : Prop :=
  (s_m.1 = nI len ∧ s_m.2.1 = nI P.length ∧ s_m.2.2.1 = nI hs.length ∧ s_m.2.2.2.1 = nI nx ∧ s_m.2.2.2.2.1 = nI sn.length ∧ s_m.2.2.2.2.2.2.2.2.2 = seed) ∧ (∀ j, j < len → s_m_text j = t j) ∧ PapR P s_m_paper ∧ RowIs bk s_m_now ∧ DiaryR hs nx s_m_diary ∧ KeptR k0 k1 s_m_isKept s_m_kept ∧ SeenR sn s_m_seenAt
def Rel (s_x : Int32 × Int64) (s_x_papers : Int32 × Int32 × Int32) (s_x_papers_cells : Ar) (s_x_now : Int32 × Int32 × Int32) (s_x_now_grants : Int32 × Int32 × Int32) (s_x_now_grants_cells : Ar) (s_x_now_routes : Int32 × Int32 × Int32) (s_x_now_routes_cells : Ar) (s_x_trial : Int32 × Int32 × Int32) (s_x_trial_grants : Int32 × Int32 × Int32) (s_x_trial_grants_cells : Ar) (s_x_trial_routes : Int32 × Int32 × Int32) (s_x_trial_routes_cells : Ar) (s_x_firstSlot : Int32 × Int32 × Int32) (s_x_firstSlot_grants : Int32 × Int32 × Int32) (s_x_firstSlot_grants_cells : Ar) (s_x_firstSlot_routes : Int32 × Int32 × Int32) (s_x_firstSlot_routes_cells : Ar) (s_x_secondSlot : Int32 × Int32 × Int32) (s_x_secondSlot_grants : Int32 × Int32 × Int32) (s_x_secondSlot_grants_cells : Ar) (s_x_secondSlot_routes : Int32 × Int32 × Int32) (s_x_secondSlot_routes_cells : Ar) (s_x_acts : Int32 × Int32 × Int32) (s_x_acts_cells : Ar) (s_x_seen : Int32 × Int32 × Int32) (s_x_seen_cells : Ar) (s_x_text : Int32 × Int32 × Int32) (s_x_text_letters : Nat → Int32) (s_x_text_papers : Int32 × Int32 × Int32) (s_x_text_papers_cells : Ar) (s_x_text_grants : Int32 × Int32 × Int32) (s_x_text_grants_cells : Ar) (s_x_text_routes : Int32 × Int32 × Int32) (s_x_text_routes_cells : Ar) (s_x_doings : Nat → Int32) (s_m : Int32 × Int32 × Int32 × Int32 × Int32 × Int32 × Int32 × Int32 × Int32 × Int64) (s_m_text : Nat → Int32) (s_m_paper : Nat → Int32) (s_m_now : Nat → Int32) (s_m_trial : Nat → Int32) (s_m_diary : Nat → Int32) (s_m_kept : Nat → Int32) (s_m_isKept : Nat → Int32) (s_m_seenAt : Nat → Int32) (s_m_worth : Nat → Int32) (s_m_readPaper : Nat → Int32) (s_m_read : Nat → Int32) : Prop :=
  ∃ (P : List PN) (bk : Bk) (hs : List Bk) (k0 k1 : Option Bk) (sn : List SN) (t : Nat → Int32) (len nx : Nat), WF P bk hs k0 k1 sn t len nx ∧ CR P bk hs k0 k1 sn t len s_x s_x_papers s_x_papers_cells s_x_now s_x_now_grants s_x_now_grants_cells s_x_now_routes s_x_now_routes_cells s_x_trial s_x_trial_grants s_x_trial_grants_cells s_x_trial_routes s_x_trial_routes_cells s_x_firstSlot s_x_firstSlot_grants s_x_firstSlot_grants_cells s_x_firstSlot_routes s_x_firstSlot_routes_cells s_x_secondSlot s_x_secondSlot_grants s_x_secondSlot_grants_cells s_x_secondSlot_routes s_x_secondSlot_routes_cells s_x_acts s_x_acts_cells s_x_seen s_x_seen_cells s_x_text s_x_text_letters s_x_text_papers s_x_text_papers_cells s_x_text_grants s_x_text_grants_cells s_x_text_routes s_x_text_routes_cells s_x_doings ∧ RR P bk hs k0 k1 sn t len nx s_x.2 s_m s_m_text s_m_paper s_m_now s_m_trial s_m_diary s_m_kept s_m_isKept s_m_seenAt s_m_worth s_m_readPaper s_m_read
/-- an index that a caller hands over, as the reference looks at it -/
theorem idx_any (v : Int32) {n : Nat} (hn : n < 2 ^ 31) : (∃ i, i < n ∧ v = nI i ∧ mX4_in v.toInt64 (0 : Int64) ((nI n - (1 : Int32)).toInt64) = some true) ∨ ((∀ i, i < n → v ≠ nI i) ∧ mX4_in v.toInt64 (0 : Int64) ((nI n - (1 : Int32)).toInt64) = some false) := by
  have e : mX4_in v.toInt64 (0 : Int64) ((nI n - (1 : Int32)).toInt64) = some (decide ((0 : Int32) ≤ v ∧ v ≤ nI n - (1 : Int32))) := in_i v 0 (nI n - 1)
  by_cases h : v < 0
  · refine Or.inr ⟨fun i hi q => nI_pos (n := i) (by omega) (q ▸ h), ?_⟩
    rw [e, decide_eq_false (fun q => Int32.not_le.mpr h q.1)]
  · obtain ⟨j, hj, rfl⟩ := nI_of h
    by_cases q : j < n
    · refine Or.inl ⟨j, q, rfl, ?_⟩
      rw [e, L1, pk_sub (by omega), decide_eq_true ⟨Int32.not_lt.mp h, nI_le (by omega) (by omega)⟩]
    · refine Or.inr ⟨fun i hi z => q (by rw [nI_eq hj (by omega)] at z; omega), ?_⟩
      by_cases n0 : n = 0
      · subst n0
        rw [e, decide_eq_false]
        intro z
        have : nI j < 0 := Int32.lt_of_le_of_lt z.2 (by decide)
        exact h this
      · rw [e, L1, pk_sub (by omega), decide_eq_false (fun z => nI_ge (a := n - 1) (b := j) (by omega) hj z.2)]
/-- the two looks at an index agree -/
theorem idx_both {lim w n : Nat} {cell : Nat → Nat → Int32} {o : I3} {a : Ar} (h : RowsIs lim w n cell o a) (v : Int32) : (∃ i, i < n ∧ v = nI i ∧ mX1_has o v = some true ∧ mX4_in v.toInt64 (0 : Int64) ((nI n - (1 : Int32)).toInt64) = some true) ∨ ((∀ i, i < n → v ≠ nI i) ∧ mX1_has o v = some false ∧ mX4_in v.toInt64 (0 : Int64) ((nI n - (1 : Int32)).toInt64) = some false) := by
  have hn : n < 2 ^ 31 := by have := h.2.1; have := h.2.2.1; omega
  rcases has_any h v with ⟨h1, h2⟩ | ⟨i, hi, rfl, h1⟩
  · rcases idx_any v hn with ⟨i, hi, rfl, e⟩ | ⟨h3, e⟩
    · exact absurd rfl (h2 i hi)
    · exact Or.inr ⟨h2, h1, e⟩
  · rcases idx_any (nI i) hn with ⟨j, hj, ej, e⟩ | ⟨h3, e⟩
    · exact Or.inl ⟨i, hi, rfl, h1, e⟩
    · exact absurd rfl (h3 i hi)
theorem isPaper_r {t : MO} {np : Nat} (ht : t.2.1 = nI np) (v : Int32) : mX4_isPaper t v = mX4_in v.toInt64 (0 : Int64) ((nI np - (1 : Int32)).toInt64) := by
  unfold mX4_isPaper
  rw [ht]
  cases mX4_in v.toInt64 (0 : Int64) ((nI np - (1 : Int32)).toInt64) <;> rfl
theorem isGrant_r {b : Bk} {w : Nat → Int32} (h : RowIs b w) (v : Int32) : mX4_isGrant w v = mX4_in v.toInt64 (0 : Int64) ((nI b.1.length - (1 : Int32)).toInt64) := by
  unfold mX4_isGrant
  rw [L0, rd_ok rfl (by decide) (by decide), h.2.2.1]
  cases mX4_in v.toInt64 (0 : Int64) ((nI b.1.length - (1 : Int32)).toInt64) <;> rfl
theorem isRoute_r {b : Bk} {w : Nat → Int32} (h : RowIs b w) (v : Int32) : mX4_isRoute w v = mX4_in v.toInt64 (0 : Int64) ((nI b.2.1.length - (1 : Int32)).toInt64) := by
  unfold mX4_isRoute
  rw [L41, rd_ok rfl (by decide) (by decide), h.2.2.2.2.1]
  cases mX4_in v.toInt64 (0 : Int64) ((nI b.2.1.length - (1 : Int32)).toInt64) <;> rfl
