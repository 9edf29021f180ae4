/-! acts: how each is kept, by its row and by the diary -/
theorem gd_take {α : Type} (l : List α) (d : α) {k j : Nat} (h : j < k) : (l.take k).getD j d = l.getD j d := by
  rw [List.getD_eq_getElem?_getD, List.getD_eq_getElem?_getD, List.getElem?_take_of_lt h]
theorem gd_drop1 {α : Type} (l : List α) (d : α) (j : Nat) : (l.drop 1).getD j d = l.getD (j + 1) d := by
  rw [List.getD_eq_getElem?_getD, List.getD_eq_getElem?_getD, List.getElem?_drop, Nat.add_comm]
theorem ActIs.cong {c c' : Nat → Int32} {x y : Bk} (h : ActIs c x y) (e : ∀ d, d < 8 → c' d = c d) : ActIs c' x y := by
  have e0 := e 0 (by decide)
  have e1 := e 1 (by decide)
  rcases h with ⟨h1, h2, h3⟩ | ⟨h1, k, h2, h3, h4, h5⟩ | ⟨h1, h2, h3⟩ | ⟨h1, k, h2, h3, h4, h5⟩ | ⟨h1, k, h2, h3, h4⟩ | ⟨h1, h2⟩ | ⟨h1, k, h2, h3, h4⟩
  · exact Or.inl ⟨e0.trans h1, e1.trans h2, h3⟩
  · exact Or.inr (Or.inl ⟨e0.trans h1, k, h2, e1.trans h3, fun d hd => (e _ (by omega)).trans (h4 d hd), h5⟩)
  · exact Or.inr (Or.inr (Or.inl ⟨e0.trans h1, e1.trans h2, h3⟩))
  · exact Or.inr (Or.inr (Or.inr (Or.inl ⟨e0.trans h1, k, h2, e1.trans h3, fun d hd => (e _ (by omega)).trans (h4 d hd), h5⟩)))
  · exact Or.inr (Or.inr (Or.inr (Or.inr (Or.inl ⟨e0.trans h1, k, h2, e1.trans h3, h4⟩))))
  · exact Or.inr (Or.inr (Or.inr (Or.inr (Or.inr (Or.inl ⟨e0.trans h1, h2⟩)))))
  · exact Or.inr (Or.inr (Or.inr (Or.inr (Or.inr (Or.inr ⟨e0.trans h1, k, h2, e1.trans h3, h4⟩)))))
theorem hA_lt (L : List Bk) (b : Bk) {j : Nat} (h : j < L.length) : hA (L ++ [b]) j = hA L j := gd_lt _ _ _ h
theorem hA_eq (L : List Bk) (b : Bk) : hA (L ++ [b]) L.length = b := gd_eq _ _ _
/-- a new row behind all: what it holds makes the acts of the new state -/
theorem rem20 {bk : Bk} {L : List Bk} {o : I3} {a : Ar} (h : ActsC bk L o a) (hn : L.length < 14) (k v : Int32) : ∃ o' a' cell', mX3_remember_b20 k v o a = some (nI L.length, o', a') ∧ RowsIs 14 8 (L.length + 1) cell' o' a' ∧ cell' L.length 0 = k ∧ cell' L.length 1 = v ∧ ∀ (aft : Bk) (o2 : I3) (a2 : Ar) (cell2 : Nat → Nat → Int32), RowsIs 14 8 (L.length + 1) cell2 o2 a2 → (∀ j, j < L.length → ∀ c, c < 8 → cell2 j c = cell' j c) → ActIs (cell2 L.length) aft bk → ActsC aft (L ++ [bk]) o2 a2 := by
  obtain ⟨cell, hr, ha⟩ := h
  obtain ⟨o1, a1, c1, e1, r1, k1, -⟩ := open_ok hr (Nat.le_refl _) hn
  obtain ⟨a2, e2, r2⟩ := put_ok r1 (i := L.length) (c := 0) (by omega) (by decide) k
  obtain ⟨a3, e3, r3⟩ := put_ok r2 (i := L.length) (c := 1) (by omega) (by decide) v
  refine ⟨o1, a3, _, ?_, r3, ?_, ?_, ?_⟩
  · unfold mX3_remember_b20
    rw [hr.cnt, e1, Option.bind_some]
    dsimp only
    rw [L0, e2, Option.bind_some, L1, e3, Option.bind_some]
  · simp
  · simp
  · intro aft o2 a2' cell2 q1 q2 q3
    refine ⟨cell2, by rw [List.length_append]; exact q1, fun j hj => ?_⟩
    rw [List.length_append] at hj
    have hj' : j < L.length + 1 := hj
    have hlen : (L ++ [bk]).length = L.length + 1 := by rw [List.length_append]; rfl
    by_cases z : j = L.length
    · subst z
      rw [hA_eq]
      unfold stA
      rw [if_neg (by omega)]
      exact q3
    · have hjl : j < L.length := by omega
      rw [hA_lt _ _ hjl]
      have hst : stA (L ++ [bk]) aft (j + 1) = stA L bk (j + 1) := by
        unfold stA
        rw [if_pos (by omega)]
        by_cases z2 : j + 1 < L.length
        · rw [if_pos z2, hA_lt _ _ z2]
        · rw [if_neg z2, show j + 1 = L.length by omega, hA_eq]
      rw [hst]
      refine (ha j hjl).cong (fun d hd => ?_)
      rw [q2 j hjl d hd, if_neg (by omega), if_neg (by omega), k1 j hjl d hd]
/-- the acts behind a new one -/
def hcut (hs : List Bk) : List Bk := if hs.length < 14 then hs else hs.drop 1
theorem hcut_len {hs : List Bk} (h : hs.length ≤ 14) : (hcut hs).length < 14 := by
  unfold hcut
  split
  · assumption
  · rw [List.length_drop]; omega
theorem hcut_ok {hs : List Bk} {Q : Bk → Prop} (h : ∀ j, j < hs.length → Q (hA hs j)) : ∀ j, j < (hcut hs).length → Q (hA (hcut hs) j) := by
  unfold hcut
  split
  · exact h
  · intro j hj
    rw [List.length_drop] at hj
    unfold hA
    rw [gd_drop1]
    exact h (j + 1) (by omega)
theorem ActsC.drop1 {bk : Bk} {hs : List Bk} {o : I3} {a : Ar} (h : ActsC bk hs o a) (hn : hs.length = 14) : ∃ o' a', mX1_closeAt o a (0 : Int32) = some (o', a') ∧ ActsC bk (hs.drop 1) o' a' := by
  obtain ⟨cell, hr, ha⟩ := h
  obtain ⟨o', a', e, r⟩ := close_ok hr (i := 0) (by omega)
  refine ⟨o', a', e, _, by rw [List.length_drop]; exact r, fun j hj => ?_⟩
  rw [List.length_drop] at hj
  unfold hA
  rw [gd_drop1]
  have := ha (j + 1) (by omega)
  unfold stA at this ⊢
  rw [List.length_drop]
  by_cases z : j + 1 + 1 < hs.length
  · rw [if_pos z] at this
    rw [if_pos (by omega)]
    unfold hA at this ⊢
    rw [gd_drop1]
    refine this.cong (fun d hd => ?_)
    simp
  · rw [if_neg z] at this
    rw [if_neg (by omega)]
    refine this.cong (fun d hd => ?_)
    simp
theorem rem_ok {bk : Bk} {hs : List Bk} {o : I3} {a : Ar} (h : ActsC bk hs o a) (hn : hs.length ≤ 14) (k v : Int32) : ∃ o' a' cell', mX3_remember o a k v = some (nI (hcut hs).length, o', a') ∧ RowsIs 14 8 ((hcut hs).length + 1) cell' o' a' ∧ cell' (hcut hs).length 0 = k ∧ cell' (hcut hs).length 1 = v ∧ ∀ (aft : Bk) (o2 : I3) (a2 : Ar) (cell2 : Nat → Nat → Int32), RowsIs 14 8 ((hcut hs).length + 1) cell2 o2 a2 → (∀ j, j < (hcut hs).length → ∀ c, c < 8 → cell2 j c = cell' j c) → ActIs (cell2 (hcut hs).length) aft bk → ActsC aft (hcut hs ++ [bk]) o2 a2 := by
  have hc : o.2.2 = nI hs.length := by obtain ⟨c, q, _⟩ := h; exact q.cnt
  unfold mX3_remember
  rw [hc, L14]
  by_cases z : hs.length < 14
  · rw [if_pos (nI_lt z (by decide))]
    have e : hcut hs = hs := by unfold hcut; rw [if_pos z]
    rw [e]
    exact rem20 h z k v
  · have z2 : hs.length = 14 := by omega
    rw [if_neg (nI_nlt (by omega) (by omega))]
    obtain ⟨o1, a1, e1, h1⟩ := h.drop1 z2
    rw [e1, Option.bind_some]
    have e : hcut hs = hs.drop 1 := by unfold hcut; rw [if_neg z]
    rw [e]
    exact rem20 h1 (by rw [List.length_drop]; omega) k v
/-- the same with the row that went -/
theorem row_l {n N w lim : Nat} {fo o : I3} {fa : Ar} {fc : Nat → Nat → Int32} (hf : RowsIs lim w N fc fo fa) (hw : w ≤ 6) {k : Nat} (hk : k < N) {cell : Nat → Nat → Int32} : ∀ (m i : Nat) (a : Ar) (c1 : Nat → Nat → Int32), i ≤ w → w - i < m → RowsIs 14 8 (n + 1) c1 o a → (∀ j c, c1 j c = if j = n ∧ 2 ≤ c ∧ c < 2 + i then fc k (c - 2) else cell j c) → ∃ a', mX3_rememberRow_b11 o fo fa (nI k) (nI n) m (nI i) a = some (o, a') ∧ ∃ c2, RowsIs 14 8 (n + 1) c2 o a' ∧ ∀ j c, c2 j c = if j = n ∧ 2 ≤ c ∧ c < 2 + w then fc k (c - 2) else cell j c := by
  intro m
  induction m with
  | zero => intro i a c1 h1 h2; omega
  | succ m ih =>
    intro i a c1 h1 h2 h3 h4
    rw [mX3_rememberRow_b11, show fo.2.1 = nI w by rw [hf.1]]
    by_cases hi : i < w
    · obtain ⟨a2, e2, r2⟩ := put_ok h3 (i := n) (c := 2 + i) (by omega) (by omega) (fc k i)
      rw [if_neg (nI_ge hi (by omega)), at_ok hf hk hi, Option.bind_some, L2, nI_add, e2, Option.bind_some, nI_1]
      refine ih (i + 1) a2 _ hi (by omega) r2 (fun j c => ?_)
      by_cases z : j = n ∧ c = 2 + i
      · rw [if_pos z, if_pos (by omega), z.2, show 2 + i - 2 = i by omega]
      · rw [if_neg z, h4]
        by_cases z2 : j = n ∧ 2 ≤ c ∧ c < 2 + i
        · rw [if_pos z2, if_pos (by omega)]
        · rw [if_neg z2, if_neg (by omega)]
    · have : i = w := by omega
      subst this
      rw [if_pos (nI_le (Nat.le_refl _) (by omega))]
      exact ⟨a, rfl, c1, h3, h4⟩
theorem remRow_ok {bk : Bk} {hs : List Bk} {o : I3} {a : Ar} (h : ActsC bk hs o a) (hn : hs.length ≤ 14) (kd : Int32) {N w lim : Nat} {fo : I3} {fa : Ar} {fc : Nat → Nat → Int32} (hf : RowsIs lim w N fc fo fa) (hw : w ≤ 6) {k : Nat} (hk : k < N) (aft : Bk) (hA : ∀ c : Nat → Int32, c 0 = kd → c 1 = nI k → (∀ d, d < w → c (2 + d) = fc k d) → ActIs c aft bk) : ∃ o' a', mX3_rememberRow o a fo fa kd (nI k) = some (o', a') ∧ ActsC aft (hcut hs ++ [bk]) o' a' := by
  obtain ⟨o1, a1, cell', e1, r1, q0, q1, q2⟩ := rem_ok h hn kd (nI k)
  have hl := hcut_len hn
  obtain ⟨a2, e2, c2, r2, h2⟩ := row_l (n := (hcut hs).length) hf hw hk (cell := cell') FU 0 a1 cell' (Nat.zero_le _) (by rw [FU_eq]; omega) r1 (fun j c => by rw [if_neg (by omega)])
  refine ⟨o1, a2, ?_, q2 aft o1 a2 c2 r2 (fun j hj c hc => by rw [h2, if_neg (by omega)]) (hA _ ?_ ?_ (fun d hd => ?_))⟩
  · unfold mX3_rememberRow
    rw [e1, Option.bind_some]
    exact e2
  · rw [h2, if_neg (by omega), q0]
  · rw [h2, if_neg (by omega), q1]
  · rw [h2, if_pos (by omega), show 2 + d - 2 = d by omega]
/-! the diary -/
theorem note_l {now : Nat → Int32} {t : MO} {nx n : Nat} (h3 : t.2.2.1 = nI n) (h4 : t.2.2.2.1 = nI nx) (hn : n ≤ 14) (hx : nx < 14) (f : Nat → Int32) : ∀ (m i : Nat) (g : Nat → Int32), i ≤ 66 → 66 - i < m → (∀ j, g j = if 66 * nx ≤ j ∧ j < 66 * nx + i then now (j - 66 * nx) else f j) → ∃ g', mX4_note_b2 t now m (nI i) g = some ((t.1, t.2.1, nI (if n < 14 then n + 1 else 14), nI ((nx + 1) % 14), t.2.2.2.2.1, t.2.2.2.2.2.1, t.2.2.2.2.2.2.1, t.2.2.2.2.2.2.2.1, t.2.2.2.2.2.2.2.2.1, t.2.2.2.2.2.2.2.2.2), g') ∧ ∀ j, g' j = if 66 * nx ≤ j ∧ j < 66 * nx + 66 then now (j - 66 * nx) else f j := by
  intro m
  induction m with
  | zero => intro i g h1 h2; omega
  | succ m ih =>
    intro i g h1 h2 hg
    rw [mX4_note_b2, h3, h4]
    by_cases hi : i < 66
    · rw [if_neg (show ¬ (66 : Int32) ≤ nI i by rw [L66]; exact nI_ge hi (by decide)), rd_ok rfl hi (by decide), L66, pk_mul, nI_add, wr_ok rfl (by omega) (by decide), nI_1]
      refine ih (i + 1) _ hi (by omega) (fun j => ?_)
      by_cases z : j = 66 * nx + i
      · subst z
        rw [pk_us, if_pos (by omega), show 66 * nx + i - 66 * nx = i by omega]
      · rw [pk_un z, hg]
        by_cases z2 : 66 * nx ≤ j ∧ j < 66 * nx + i
        · rw [if_pos z2, if_pos (by omega)]
        · rw [if_neg z2, if_neg (by omega)]
    · have : i = 66 := by omega
      subst this
      rw [if_pos (by decide), bnd_eq, nI_1, show nI (nx + 1) - nI (nx + 1) / (14 : Int32) * (14 : Int32) = nI ((nx + 1) % 14) from pk_rem (by omega) (by decide) (by decide)]
      by_cases z : n < 14
      · rw [if_neg (show ¬ (14 : Int32) ≤ nI n by rw [L14]; exact nI_ge z (by decide)), if_pos z, nI_1]
        exact ⟨g, rfl, hg⟩
      · rw [if_pos (show (14 : Int32) ≤ nI n by rw [L14]; exact nI_le (by omega) (by omega)), if_neg z]
        exact ⟨g, rfl, hg⟩
theorem hcut_nlen {hs : List Bk} (hn : hs.length ≤ 14) (b : Bk) : (hcut hs ++ [b]).length = if hs.length < 14 then hs.length + 1 else 14 := by
  rw [List.length_append]
  unfold hcut
  by_cases z : hs.length < 14
  · rw [if_pos z, if_pos z]; rfl
  · rw [if_neg z, if_neg z, List.length_drop]
    show hs.length - 1 + 1 = 14
    omega
theorem note_ok {bk : Bk} {hs : List Bk} {now f : Nat → Int32} {t : MO} {nx : Nat} (h3 : t.2.2.1 = nI hs.length) (h4 : t.2.2.2.1 = nI nx) (hn : hs.length ≤ 14) (hx : nx < 14) (hD : DiaryR hs nx f) (hN : RowIs bk now) : ∃ g', mX4_note t now f = some ((t.1, t.2.1, nI (hcut hs ++ [bk]).length, nI ((nx + 1) % 14), t.2.2.2.2.1, t.2.2.2.2.2.1, t.2.2.2.2.2.2.1, t.2.2.2.2.2.2.2.1, t.2.2.2.2.2.2.2.2.1, t.2.2.2.2.2.2.2.2.2), g') ∧ DiaryR (hcut hs ++ [bk]) ((nx + 1) % 14) g' := by
  obtain ⟨g', e, hg⟩ := note_l h3 h4 hn hx f (now := now) FU 0 f (Nat.zero_le _) (by rw [FU_eq]; decide) (fun j => by rw [if_neg (by omega)])
  have hlen := hcut_nlen hn bk
  refine ⟨g', by rw [hlen]; exact e, fun j hj => ?_⟩
  rw [hlen] at hj ⊢
  have key : ∀ s, s < 14 → s ≠ nx → ∀ b, RowIs b (fun k => f (66 * s + k)) → RowIs b (fun k => g' (66 * s + k)) := fun s hs1 hs2 b hb => RowR.cong hb (fun k hk => by rw [hg, if_neg (by omega)])
  by_cases z : hs.length < 14
  · rw [if_pos z] at hj ⊢
    have ec : hcut hs = hs := by unfold hcut; rw [if_pos z]
    rw [ec]
    by_cases q : j = hs.length
    · subst q
      rw [hA_eq, show ((nx + 1) % 14 + 14 - (hs.length + 1) + hs.length) % 14 = nx by omega]
      exact RowR.cong hN (fun k hk => by rw [hg, if_pos (by omega), show 66 * nx + k - 66 * nx = k by omega])
    · rw [hA_lt _ _ (by omega), show ((nx + 1) % 14 + 14 - (hs.length + 1) + j) % 14 = (nx + 14 - hs.length + j) % 14 by omega]
      exact key _ (by omega) (by omega) _ (hD j (by omega))
  · rw [if_neg z] at hj ⊢
    have ec : hcut hs = hs.drop 1 := by unfold hcut; rw [if_neg z]
    have ld : (hs.drop 1).length = 13 := by rw [List.length_drop]; omega
    rw [ec]
    by_cases q : j = 13
    · subst q
      have := hA_eq (hs.drop 1) bk
      rw [ld] at this
      rw [this, show ((nx + 1) % 14 + 14 - 14 + 13) % 14 = nx by omega]
      exact RowR.cong hN (fun k hk => by rw [hg, if_pos (by omega), show 66 * nx + k - 66 * nx = k by omega])
    · rw [hA_lt _ _ (by omega)]
      have e2 : hA (hs.drop 1) j = hA hs (j + 1) := by unfold hA; rw [gd_drop1]
      have h14 : hs.length = 14 := by omega
      rw [e2, show ((nx + 1) % 14 + 14 - 14 + j) % 14 = (nx + 14 - hs.length + (j + 1)) % 14 by omega]
      exact key _ (by omega) (by omega) _ (hD (j + 1) (by omega))
