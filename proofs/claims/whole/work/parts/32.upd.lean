/-! what changes rows: coming behind all, going, copies -/
theorem gd_lt {α : Type} (l : List α) (x d : α) {i : Nat} (h : i < l.length) : (l ++ [x]).getD i d = l.getD i d := by
  rw [List.getD_eq_getElem?_getD, List.getD_eq_getElem?_getD, List.getElem?_append_left h]
theorem gd_eq {α : Type} (l : List α) (x d : α) : (l ++ [x]).getD l.length d = x := by
  rw [List.getD_eq_getElem?_getD, List.getElem?_append_right (Nat.le_refl _), Nat.sub_self]
  rfl
theorem gd_er {α : Type} (l : List α) (d : α) (k i : Nat) : (l.eraseIdx k).getD i d = if i < k then l.getD i d else l.getD (i + 1) d := by
  rw [List.getD_eq_getElem?_getD, List.getElem?_eraseIdx]
  split <;> rw [List.getD_eq_getElem?_getD]
theorem er_len {α : Type} {l : List α} {k : Nat} (h : k < l.length) : (l.eraseIdx k).length = l.length - 1 := List.length_eraseIdx_of_lt h
section UP
variable {P : List PN} {G : List GN} {R : List RN} {S : List SN} {po go ro so bo : I3} {pa ga ra sa : Ar}
theorem SeC.add (h : SeC S so sa) (hn : S.length < 6) (x : SN) (hl : x.2.1 < 2 ^ 31) : ∃ o' a', mX1_addRange so sa (nI x.1) (nI x.2.1) (nI x.2.2.1) (nI x.2.2.2) (0 : Int32) = some (nI S.length, o', a') ∧ SeC (S ++ [x]) o' a' := by
  obtain ⟨o', a', e, r⟩ := add_ok h hn (by decide) (by decide) x.1 x.2.1 hl (nI x.2.2.1) (nI x.2.2.2) 0
  refine ⟨o', a', e, ?_⟩
  unfold SeC
  rw [List.length_append]
  refine r.cong (fun j hj c hc => ?_)
  by_cases q : j = S.length
  · subst q; rw [if_pos rfl]; unfold qA; rw [gd_eq]; rfl
  · rw [if_neg q]; unfold qA; rw [gd_lt _ _ _ (by omega)]
theorem GrC.add (h : GrC G go ga) (hn : G.length < 8) (x : GN) (hl : x.2.2.2.1 < 2 ^ 31) : ∃ o' a', mX1_addRange go ga (nI x.2.2.1) (nI x.2.2.2.1) (nI x.2.1) (nI x.1) (nI x.2.2.2.2) = some (nI G.length, o', a') ∧ GrC (G ++ [x]) o' a' := by
  obtain ⟨o', a', e, r⟩ := add_ok h hn (by decide) (by decide) x.2.2.1 x.2.2.2.1 hl (nI x.2.1) (nI x.1) (nI x.2.2.2.2)
  refine ⟨o', a', e, ?_⟩
  unfold GrC
  rw [List.length_append]
  refine r.cong (fun j hj c hc => ?_)
  by_cases q : j = G.length
  · subst q; rw [if_pos rfl]; unfold gA; rw [gd_eq]; rfl
  · rw [if_neg q]; unfold gA; rw [gd_lt _ _ _ (by omega)]
theorem RtC.add (h : RtC R ro ra) (hn : R.length < 7) (x : RN) (hl : x.2.1 < 2 ^ 31) : ∃ o' a', mX1_addRange ro ra (nI x.1) (nI x.2.1) (nI x.2.2) (0 : Int32) (0 : Int32) = some (nI R.length, o', a') ∧ RtC (R ++ [x]) o' a' := by
  obtain ⟨o', a', e, r⟩ := add_ok h hn (by decide) (by decide) x.1 x.2.1 hl (nI x.2.2) 0 0
  refine ⟨o', a', e, ?_⟩
  unfold RtC
  rw [List.length_append]
  refine r.cong (fun j hj c hc => ?_)
  by_cases q : j = R.length
  · subst q; rw [if_pos rfl]; unfold rA; rw [gd_eq]; rfl
  · rw [if_neg q]; unfold rA; rw [gd_lt _ _ _ (by omega)]
theorem GrC.close (h : GrC G go ga) {k : Nat} (hk : k < G.length) : ∃ o' a', mX1_closeAt go ga (nI k) = some (o', a') ∧ GrC (G.eraseIdx k) o' a' := by
  obtain ⟨o', a', e, r⟩ := close_ok h hk
  refine ⟨o', a', e, ?_⟩
  unfold GrC
  rw [er_len hk]
  refine r.cong (fun j hj c hc => ?_)
  unfold gA
  rw [gd_er]
  split <;> rfl
theorem RtC.close (h : RtC R ro ra) {k : Nat} (hk : k < R.length) : ∃ o' a', mX1_closeAt ro ra (nI k) = some (o', a') ∧ RtC (R.eraseIdx k) o' a' := by
  obtain ⟨o', a', e, r⟩ := close_ok h hk
  refine ⟨o', a', e, ?_⟩
  unfold RtC
  rw [er_len hk]
  refine r.cong (fun j hj c hc => ?_)
  unfold rA
  rw [gd_er]
  split <;> rfl
/-- a whole book copied -/
theorem bcopy {b : Bk} {bo go : I3} {ga : Ar} {ro : I3} {ra : Ar} {bo' go' : I3} {ga' : Ar} {ro' : I3} {ra' : Ar} (h : BooksIs b bo go ga ro ra) (h' : BooksSh go' ga' ro' ra') : ∃ y, mX0_copyFrom bo' bo go' go ga ga' ro' ro ra ra' = some y ∧ BooksIs b y.1 y.2.1 y.2.2.1 y.2.2.2.1 y.2.2.2.2 := by
  obtain ⟨hb, hg, hr⟩ := h
  obtain ⟨o1, a1, e1, r1⟩ := copy_ok hg h'.1 hg.2.1
  obtain ⟨o2, a2, e2, r2⟩ := copy_ok hr h'.2 hr.2.1
  refine ⟨((bo.1, bo.2.1, bo.2.2), o1, a1, o2, a2), ?_, ?_, r1, r2⟩
  · unfold mX0_copyFrom
    rw [e1, Option.bind_some, e2, Option.bind_some]
  · rw [hb]
theorem BooksIs.sh {b : Bk} {bo go : I3} {ga : Ar} {ro : I3} {ra : Ar} (h : BooksIs b bo go ga ro ra) : BooksSh go ga ro ra := ⟨h.2.1.sh, h.2.2.sh⟩
end UP
/-! the reference's row -/
section UR
variable {G : List GN} {R : List RN} {rev aside : Int32} {day : Nat} {f w : Nat → Int32}
theorem RowR.cong (h : RowR G R rev aside day f) (e : ∀ j, j < 66 → w j = f j) : RowR G R rev aside day w := by
  obtain ⟨n1, n2, z0, zg, z41, zr, z63, z64, z65⟩ := h
  refine ⟨n1, n2, by rw [e 0 (by decide), z0], fun i hi => ?_, by rw [e 41 (by decide), z41], fun i hi => ?_, by rw [e 63 (by decide), z63], by rw [e 64 (by decide), z64], by rw [e 65 (by decide), z65]⟩
  · obtain ⟨a1, a2, a3, a4, a5⟩ := zg i hi
    exact ⟨by rw [e _ (by omega), a1], by rw [e _ (by omega), a2], by rw [e _ (by omega), a3], by rw [e _ (by omega), a4], by rw [e _ (by omega), a5]⟩
  · obtain ⟨a1, a2, a3⟩ := zr i hi
    exact ⟨by rw [e _ (by omega), a1], by rw [e _ (by omega), a2], by rw [e _ (by omega), a3]⟩
theorem copy_rl (f : Nat → Int32) : ∀ (m i : Nat) (g : Nat → Int32), i ≤ 66 → 66 - i < m → (∀ j, j < i → g j = f j) → ∃ g', mX4_copy_b2 f m (nI i) g = some g' ∧ ∀ j, j < 66 → g' j = f j := by
  intro m
  induction m with
  | zero => intro i g h1 h2; omega
  | succ m ih =>
    intro i g h1 h2 h3
    rw [mX4_copy_b2, L66]
    by_cases hi : i < 66
    · rw [if_neg (nI_ge hi (by decide)), rd_ok rfl hi (by decide), wr_ok rfl hi (by decide), nI_1]
      refine ih (i + 1) _ hi (by omega) (fun j hj => ?_)
      by_cases q : j = i
      · subst q; rw [pk_us]
      · rw [pk_un q, h3 j (by omega)]
    · rw [if_pos (nI_le (by omega) (by omega))]
      exact ⟨g, rfl, fun j hj => h3 j (by omega)⟩
theorem copy_r (f g : Nat → Int32) : ∃ g', mX4_copy f g = some g' ∧ ∀ j, j < 66 → g' j = f j := by
  unfold mX4_copy
  exact copy_rl f FU 0 g (Nat.zero_le _) (by rw [FU_eq]; decide) (fun j hj => by omega)
theorem addRoute_r (h : RowR G R rev aside day f) (hn : R.length < 7) (x : RN) : ∃ f', mX4_addRoute f (nI x.1) (nI x.2.1) (nI x.2.2) = some f' ∧ RowR G (R ++ [x]) rev aside day f' := by
  obtain ⟨n1, n2, z0, zg, z41, zr, z63, z64, z65⟩ := h
  have e : mX4_addRoute f (nI x.1) (nI x.2.1) (nI x.2.2) = some (upd (upd (upd (upd f (42 + 3 * R.length) (nI x.1)) (42 + 3 * R.length + 1) (nI x.2.1)) (42 + 3 * R.length + 2) (nI x.2.2)) 41 (nI (R.length + 1))) := by
    unfold mX4_addRoute
    simp only [L1, L2, L3, L41, L42, pk_mul, nI_add]
    rw [rd_ok rfl (by decide) (by decide), z41]
    simp only [pk_mul, nI_add]
    rw [wr_ok rfl (by omega) (by decide), wr_ok rfl (by omega) (by decide), wr_ok rfl (by omega) (by decide), rd_ok rfl (by decide) (by decide), wr_ok rfl (by decide) (by decide), pk_un (by omega), pk_un (by omega), pk_un (by omega), z41, nI_add]
  refine ⟨_, e, n1, by rw [List.length_append]; exact hn, ?_, fun i hi => ?_, ?_, fun i hi => ?_, ?_, ?_, ?_⟩
  · rw [pk_un (by decide), pk_un (by omega), pk_un (by omega), pk_un (by omega), z0]
  · obtain ⟨a1, a2, a3, a4, a5⟩ := zg i hi
    refine ⟨?_, ?_, ?_, ?_, ?_⟩
    · rw [pk_un (by omega), pk_un (by omega), pk_un (by omega), pk_un (by omega), a1]
    · rw [pk_un (by omega), pk_un (by omega), pk_un (by omega), pk_un (by omega), a2]
    · rw [pk_un (by omega), pk_un (by omega), pk_un (by omega), pk_un (by omega), a3]
    · rw [pk_un (by omega), pk_un (by omega), pk_un (by omega), pk_un (by omega), a4]
    · rw [pk_un (by omega), pk_un (by omega), pk_un (by omega), pk_un (by omega), a5]
  · rw [pk_us, List.length_append]; rfl
  · rw [List.length_append] at hi
    have hi' : i < R.length + 1 := hi
    by_cases q : i = R.length
    · subst q
      unfold rA
      rw [gd_eq]
      exact ⟨by rw [pk_un (by omega), pk_un (by omega), pk_un (by omega), pk_us], by rw [pk_un (by omega), pk_un (by omega), pk_us], by rw [pk_un (by omega), pk_us]⟩
    · obtain ⟨a1, a2, a3⟩ := zr i (by omega)
      unfold rA at a1 a2 a3 ⊢
      rw [gd_lt _ _ _ (by omega)]
      exact ⟨by rw [pk_un (by omega), pk_un (by omega), pk_un (by omega), pk_un (by omega), a1], by rw [pk_un (by omega), pk_un (by omega), pk_un (by omega), pk_un (by omega), a2], by rw [pk_un (by omega), pk_un (by omega), pk_un (by omega), pk_un (by omega), a3]⟩
  · rw [pk_un (by decide), pk_un (by omega), pk_un (by omega), pk_un (by omega), z63]
  · rw [pk_un (by decide), pk_un (by omega), pk_un (by omega), pk_un (by omega), z64]
  · rw [pk_un (by decide), pk_un (by omega), pk_un (by omega), pk_un (by omega), z65]
theorem addGrant_r (h : RowR G R rev aside day f) (hn : G.length < 8) (x : GN) : ∃ f', mX4_addGrant f (nI x.1) (nI x.2.1) (nI x.2.2.1) (nI x.2.2.2.1) (nI x.2.2.2.2) = some f' ∧ RowR (G ++ [x]) R rev aside day f' := by
  obtain ⟨n1, n2, z0, zg, z41, zr, z63, z64, z65⟩ := h
  have e : mX4_addGrant f (nI x.1) (nI x.2.1) (nI x.2.2.1) (nI x.2.2.2.1) (nI x.2.2.2.2) = some (upd (upd (upd (upd (upd (upd f (1 + 5 * G.length) (nI x.1)) (1 + 5 * G.length + 1) (nI x.2.1)) (1 + 5 * G.length + 2) (nI x.2.2.1)) (1 + 5 * G.length + 3) (nI x.2.2.2.1)) (1 + 5 * G.length + 4) (nI x.2.2.2.2)) 0 (nI (G.length + 1))) := by
    unfold mX4_addGrant
    simp only [L0, L1, L2, L3, L4, L5, pk_mul, nI_add]
    rw [rd_ok rfl (by decide) (by decide), z0]
    simp only [pk_mul, nI_add]
    rw [wr_ok rfl (by omega) (by decide), wr_ok rfl (by omega) (by decide), wr_ok rfl (by omega) (by decide), wr_ok rfl (by omega) (by decide), wr_ok rfl (by omega) (by decide), rd_ok rfl (by decide) (by decide), wr_ok rfl (by decide) (by decide), pk_un (by omega), pk_un (by omega), pk_un (by omega), pk_un (by omega), pk_un (by omega), z0, nI_add]
  have out : ∀ j, (j ≠ 0 ∧ (j < 1 + 5 * G.length ∨ 1 + 5 * G.length + 4 < j)) → upd (upd (upd (upd (upd (upd f (1 + 5 * G.length) (nI x.1)) (1 + 5 * G.length + 1) (nI x.2.1)) (1 + 5 * G.length + 2) (nI x.2.2.1)) (1 + 5 * G.length + 3) (nI x.2.2.2.1)) (1 + 5 * G.length + 4) (nI x.2.2.2.2)) 0 (nI (G.length + 1)) j = f j := by
    intro j hj
    rw [pk_un (by omega), pk_un (by omega), pk_un (by omega), pk_un (by omega), pk_un (by omega), pk_un (by omega)]
  refine ⟨_, e, by rw [List.length_append]; exact hn, n2, ?_, fun i hi => ?_, ?_, fun i hi => ?_, ?_, ?_, ?_⟩
  · rw [pk_us, List.length_append]; rfl
  · rw [List.length_append] at hi
    have hi' : i < G.length + 1 := hi
    by_cases q : i = G.length
    · subst q
      unfold gA
      rw [gd_eq]
      exact ⟨by rw [pk_un (by omega), pk_un (by omega), pk_un (by omega), pk_un (by omega), pk_un (by omega), pk_us], by rw [pk_un (by omega), pk_un (by omega), pk_un (by omega), pk_un (by omega), pk_us], by rw [pk_un (by omega), pk_un (by omega), pk_un (by omega), pk_us], by rw [pk_un (by omega), pk_un (by omega), pk_us], by rw [pk_un (by omega), pk_us]⟩
    · obtain ⟨a1, a2, a3, a4, a5⟩ := zg i (by omega)
      unfold gA at a1 a2 a3 a4 a5 ⊢
      rw [gd_lt _ _ _ (by omega)]
      exact ⟨by rw [out _ (by omega), a1], by rw [out _ (by omega), a2], by rw [out _ (by omega), a3], by rw [out _ (by omega), a4], by rw [out _ (by omega), a5]⟩
  · rw [out _ (by omega), z41]
  · obtain ⟨a1, a2, a3⟩ := zr i hi
    exact ⟨by rw [out _ (by omega), a1], by rw [out _ (by omega), a2], by rw [out _ (by omega), a3]⟩
  · rw [out _ (by omega), z63]
  · rw [out _ (by omega), z64]
  · rw [out _ (by omega), z65]
theorem takeRoute_l (f : Nat → Int32) {n lo : Nat} (hn : n ≤ 6) (hlo : 42 ≤ lo) (h41 : f 41 = nI n) : ∀ (m i : Nat) (g : Nat → Int32), lo ≤ i → i ≤ 42 + 3 * n → 42 + 3 * n - i < m → (∀ j, g j = if lo ≤ j ∧ j < i then f (j + 3) else f j) → ∃ g', mX4_takeRoute_b15 m (nI i) g = some g' ∧ ∀ j, g' j = if lo ≤ j ∧ j < 42 + 3 * n then f (j + 3) else f j := by
  intro m
  induction m with
  | zero => intro i g h0 h1 h2; omega
  | succ m ih =>
    intro i g h0 h1 h2 h3
    have h4 : g 41 = nI n := by rw [h3, if_neg (by omega), h41]
    rw [mX4_takeRoute_b15]
    simp only [L1, L3, L41, L42, nI_add]
    rw [rd_ok rfl (by decide) (by decide), h4]
    simp only [pk_mul, nI_add]
    by_cases hi : i < 42 + 3 * n
    · rw [if_neg (nI_ge hi (by omega)), rd_ok rfl (by omega) (by decide), wr_ok rfl (by omega) (by decide)]
      refine ih (i + 1) _ (by omega) hi (by omega) (fun j => ?_)
      by_cases q : j = i
      · subst q
        rw [pk_us, if_pos (by omega), h3, if_neg (by omega)]
      · rw [pk_un q, h3]
        by_cases q2 : lo ≤ j ∧ j < i
        · rw [if_pos q2, if_pos (by omega)]
        · rw [if_neg q2, if_neg (by omega)]
    · have : i = 42 + 3 * n := by omega
      subst this
      rw [if_pos (nI_le (Nat.le_refl _) (by omega))]
      exact ⟨g, rfl, h3⟩
theorem takeRoute_r (h : RowR G R rev aside day f) {k : Nat} (hk : k < R.length) : ∃ f', mX4_takeRoute f (nI k) = some f' ∧ RowR G (R.eraseIdx k) rev aside day f' := by
  obtain ⟨n1, n2, z0, zg, z41, zr, z63, z64, z65⟩ := h
  obtain ⟨g', e, hg⟩ := takeRoute_l (upd f 41 (nI (R.length - 1))) (n := R.length - 1) (lo := 42 + 3 * k) (by omega) (by omega) (by rw [pk_us]) FU (42 + 3 * k) (upd f 41 (nI (R.length - 1))) (Nat.le_refl _) (by omega) (by rw [FU_eq]; omega) (fun j => by rw [if_neg (by omega)])
  refine ⟨g', ?_, n1, by rw [er_len hk]; omega, ?_, fun i hi => ?_, ?_, fun i hi => ?_, ?_, ?_, ?_⟩
  · unfold mX4_takeRoute
    simp only [L1, L3, L41, L42, pk_mul, nI_add]
    rw [rd_ok rfl (by decide) (by decide), z41, wr_ok rfl (by decide) (by decide), pk_sub (by omega)]
    exact e
  · rw [hg, if_neg (by omega), pk_un (by decide), z0]
  · obtain ⟨a1, a2, a3, a4, a5⟩ := zg i hi
    exact ⟨by rw [hg, if_neg (by omega), pk_un (by omega), a1], by rw [hg, if_neg (by omega), pk_un (by omega), a2], by rw [hg, if_neg (by omega), pk_un (by omega), a3], by rw [hg, if_neg (by omega), pk_un (by omega), a4], by rw [hg, if_neg (by omega), pk_un (by omega), a5]⟩
  · rw [hg, if_neg (by omega), pk_us, er_len hk]
  · rw [er_len hk] at hi
    unfold rA at zr ⊢
    rw [gd_er]
    by_cases q : i < k
    · obtain ⟨a1, a2, a3⟩ := zr i (by omega)
      rw [if_pos q]
      exact ⟨by rw [hg, if_neg (by omega), pk_un (by omega), a1], by rw [hg, if_neg (by omega), pk_un (by omega), a2], by rw [hg, if_neg (by omega), pk_un (by omega), a3]⟩
    · obtain ⟨a1, a2, a3⟩ := zr (i + 1) (by omega)
      rw [if_neg q]
      refine ⟨?_, ?_, ?_⟩
      · rw [hg, if_pos (by omega), pk_un (by omega), show 42 + 3 * i + 3 = 42 + 3 * (i + 1) by omega, a1]
      · rw [hg, if_pos (by omega), pk_un (by omega), show 42 + 3 * i + 1 + 3 = 42 + 3 * (i + 1) + 1 by omega, a2]
      · rw [hg, if_pos (by omega), pk_un (by omega), show 42 + 3 * i + 2 + 3 = 42 + 3 * (i + 1) + 2 by omega, a3]
  · rw [hg, if_neg (by omega), pk_un (by decide), z63]
  · rw [hg, if_neg (by omega), pk_un (by decide), z64]
  · rw [hg, if_neg (by omega), pk_un (by decide), z65]
theorem takeGrant_l (f : Nat → Int32) {n lo : Nat} (hn : n ≤ 7) (hlo : 1 ≤ lo) (h0f : f 0 = nI n) : ∀ (m i : Nat) (g : Nat → Int32), lo ≤ i → i ≤ 1 + 5 * n → 1 + 5 * n - i < m → (∀ j, g j = if lo ≤ j ∧ j < i then f (j + 5) else f j) → ∃ g', mX4_takeGrant_b13 m (nI i) g = some g' ∧ ∀ j, g' j = if lo ≤ j ∧ j < 1 + 5 * n then f (j + 5) else f j := by
  intro m
  induction m with
  | zero => intro i g h0 h1 h2; omega
  | succ m ih =>
    intro i g h0 h1 h2 h3
    have h4 : g 0 = nI n := by rw [h3, if_neg (by omega), h0f]
    rw [mX4_takeGrant_b13]
    simp only [L0, L1, L5, nI_add]
    rw [rd_ok rfl (by decide) (by decide), h4]
    simp only [pk_mul, nI_add]
    by_cases hi : i < 1 + 5 * n
    · rw [if_neg (nI_ge hi (by omega)), rd_ok rfl (by omega) (by decide), wr_ok rfl (by omega) (by decide)]
      refine ih (i + 1) _ (by omega) hi (by omega) (fun j => ?_)
      by_cases q : j = i
      · subst q
        rw [pk_us, if_pos (by omega), h3, if_neg (by omega)]
      · rw [pk_un q, h3]
        by_cases q2 : lo ≤ j ∧ j < i
        · rw [if_pos q2, if_pos (by omega)]
        · rw [if_neg q2, if_neg (by omega)]
    · have : i = 1 + 5 * n := by omega
      subst this
      rw [if_pos (nI_le (Nat.le_refl _) (by omega))]
      exact ⟨g, rfl, h3⟩
theorem takeGrant_r (h : RowR G R rev aside day f) {k : Nat} (hk : k < G.length) : ∃ f', mX4_takeGrant f (nI k) = some f' ∧ RowR (G.eraseIdx k) R rev aside day f' := by
  obtain ⟨n1, n2, z0, zg, z41, zr, z63, z64, z65⟩ := h
  obtain ⟨g', e, hg⟩ := takeGrant_l (upd f 0 (nI (G.length - 1))) (n := G.length - 1) (lo := 1 + 5 * k) (by omega) (by omega) (by rw [pk_us]) FU (1 + 5 * k) (upd f 0 (nI (G.length - 1))) (Nat.le_refl _) (by omega) (by rw [FU_eq]; omega) (fun j => by rw [if_neg (by omega)])
  refine ⟨g', ?_, by rw [er_len hk]; omega, n2, ?_, fun i hi => ?_, ?_, fun i hi => ?_, ?_, ?_, ?_⟩
  · unfold mX4_takeGrant
    simp only [L0, L1, L5, pk_mul, nI_add]
    rw [rd_ok rfl (by decide) (by decide), z0, wr_ok rfl (by decide) (by decide), pk_sub (by omega)]
    exact e
  · rw [hg, if_neg (by omega), pk_us, er_len hk]
  · rw [er_len hk] at hi
    unfold gA at zg ⊢
    rw [gd_er]
    by_cases q : i < k
    · obtain ⟨a1, a2, a3, a4, a5⟩ := zg i (by omega)
      rw [if_pos q]
      exact ⟨by rw [hg, if_neg (by omega), pk_un (by omega), a1], by rw [hg, if_neg (by omega), pk_un (by omega), a2], by rw [hg, if_neg (by omega), pk_un (by omega), a3], by rw [hg, if_neg (by omega), pk_un (by omega), a4], by rw [hg, if_neg (by omega), pk_un (by omega), a5]⟩
    · obtain ⟨a1, a2, a3, a4, a5⟩ := zg (i + 1) (by omega)
      rw [if_neg q]
      refine ⟨?_, ?_, ?_, ?_, ?_⟩
      · rw [hg, if_pos (by omega), pk_un (by omega), show 1 + 5 * i + 5 = 1 + 5 * (i + 1) by omega, a1]
      · rw [hg, if_pos (by omega), pk_un (by omega), show 1 + 5 * i + 1 + 5 = 1 + 5 * (i + 1) + 1 by omega, a2]
      · rw [hg, if_pos (by omega), pk_un (by omega), show 1 + 5 * i + 2 + 5 = 1 + 5 * (i + 1) + 2 by omega, a3]
      · rw [hg, if_pos (by omega), pk_un (by omega), show 1 + 5 * i + 3 + 5 = 1 + 5 * (i + 1) + 3 by omega, a4]
      · rw [hg, if_pos (by omega), pk_un (by omega), show 1 + 5 * i + 4 + 5 = 1 + 5 * (i + 1) + 4 by omega, a5]
  · rw [hg, if_neg (by omega), pk_un (by decide), z41]
  · obtain ⟨a1, a2, a3⟩ := zr i hi
    exact ⟨by rw [hg, if_neg (by omega), pk_un (by omega), a1], by rw [hg, if_neg (by omega), pk_un (by omega), a2], by rw [hg, if_neg (by omega), pk_un (by omega), a3]⟩
  · rw [hg, if_neg (by omega), pk_un (by decide), z63]
  · rw [hg, if_neg (by omega), pk_un (by decide), z64]
  · rw [hg, if_neg (by omega), pk_un (by decide), z65]
end UR
