/-! the text read: a part, and all of it -/
def PapR1 (P : List PN) (f : Nat → Int32) : Prop := ∀ i, 0 < i → i < P.length → f (4 * i) = nI (pA P i).1 ∧ f (4 * i + 1) = nI (pA P i).2.1 ∧ f (4 * i + 2) = nI (pA P i).2.2.1 ∧ f (4 * i + 3) = nI (pA P i).2.2.2
def RtT (R : List RN) (o : I3) (a : Ar) : Prop := RowsIs 6 4 R.length (fun i c => rcell (rA R i) c) o a
def RSok (P : List PN) (G : List GN) (R : List RN) : Prop := PLok P ∧ G.length ≤ 8 ∧ (∀ k, k < G.length → gOk P.length (gA G k)) ∧ R.length ≤ 6 ∧ ∀ k, k < R.length → rOk (rA R k)
def RSc (P : List PN) (G : List GN) (R : List RN) (po : I3) (pa : Ar) (go : I3) (ga : Ar) (ro : I3) (ra : Ar) : Prop := PapC P po pa ∧ GrC G go ga ∧ RtT R ro ra
def RSr (P : List PN) (G : List GN) (R : List RN) (rd_ rp : Nat → Int32) : Prop := RowR G R 0 0 0 rd_ ∧ PapR1 P rp
theorem gOk.up {np : Nat} {g : GN} (h : gOk np g) : gOk (np + 1) g := by
  obtain ⟨a1, a2⟩ := h
  refine ⟨?_, a2⟩
  rcases a1 with z | z
  · exact Or.inl (by omega)
  · exact Or.inr z
section TY
variable {len : Nat} {L T : Nat → Int32} {q : Nat → Nat} {P : List PN} {G : List GN} {R : List RN} {po go ro : I3} {pa ga ra : Ar} {rr rp : Nat → Int32}
theorem PapC.add (h : PapC P po pa) (hn : P.length < 6) (h0 : 0 < P.length) (x : PN) (hl : x.2.2.1 < 2 ^ 31) : ∃ o' a', mX1_addRange po pa (nI x.2.1) (nI x.2.2.1) (nI x.1) (nI x.2.2.2) (0 : Int32) = some (nI P.length, o', a') ∧ PapC (P ++ [x]) o' a' := by
  obtain ⟨o', a', e, r⟩ := add_ok h hn (by decide) (by decide) x.2.1 x.2.2.1 hl (nI x.1) (nI x.2.2.2) 0
  refine ⟨o', a', e, ?_⟩
  unfold PapC
  rw [List.length_append]
  refine RowsIs.cong r (fun i hi c hc => ?_)
  unfold pA
  by_cases z : i = P.length
  · subst z
    rw [if_pos rfl, gd_eq]
    unfold pcell
    rw [if_neg (by omega), if_neg (by omega)]
  · have hi' : i < P.length + 1 := hi
    rw [if_neg z, gd_lt _ _ _ (by omega)]
theorem RtT.add (h : RtT R ro ra) (hn : R.length < 6) (x : RN) (hl : x.2.1 < 2 ^ 31) : ∃ o' a', mX1_addRange ro ra (nI x.1) (nI x.2.1) (nI x.2.2) (0 : Int32) (0 : Int32) = some (nI R.length, o', a') ∧ RtT (R ++ [x]) o' a' := by
  obtain ⟨o', a', e, r⟩ := add_ok h hn (by decide) (by decide) x.1 x.2.1 hl (nI x.2.2) 0 0
  refine ⟨o', a', e, ?_⟩
  unfold RtT
  rw [List.length_append]
  refine RowsIs.cong r (fun i hi c hc => ?_)
  unfold rA
  by_cases z : i = R.length
  · subst z
    rw [if_pos rfl, gd_eq]
    rfl
  · have hi' : i < R.length + 1 := hi
    rw [if_neg z, gd_lt _ _ _ (by omega)]
theorem readRoute_l (hlen : len ≤ 99) (hL : ∀ j, j < len → L j = nI (q j)) (hT : ∀ j, j < len → T j = nI (q j)) (hq : ∀ j, j < len → q j < 256) {a : Nat} (ha : a ≤ len) (b : MO) (hb : b.1 = nI len) (np st ln : Int32) (hR : RtT R ro ra) (hn : R.length < 6) {rev aside : Int32} {day : Nat} (hr : RowR G R rev aside day rr) :
    (∃ x e ro' ra' rr' st' ln', rOk x ∧ e ≤ len ∧ a < e ∧ mX2_readRoute (nI len, nI a, (-9 : Int32)) L ro ra = some ((nI len, nI e, (-9 : Int32)), ro', ra') ∧ RtT (R ++ [x]) ro' ra' ∧ mX4_readOneRoute (mkT b (nI a) np st ln) T rr = some (true, mkT b (nI e) np st' ln', rr') ∧ RowR G (R ++ [x]) rev aside day rr') ∨
    (∃ f st' ln', f ≤ len ∧ mX2_readRoute (nI len, nI a, (-9 : Int32)) L ro ra = some ((nI len, nI f, nI f), ro, ra) ∧ mX4_readOneRoute (mkT b (nI a) np st ln) T rr = some (false, mkT b (nI f) np st' ln', rr)) := by
  rcases rng hlen hL hT hq ha b hb np st ln with ⟨s, l, p, e, v, e1, e2, c1, c2, r1⟩ | ⟨s, l, c, f, st', ln', s1, l1, f1, c1, c2, r1⟩
  · have hl := v.1
    rcases fig hlen hL hT hq e1 b hb np (nI s) (nI l) (lo := 0) (hi := 5) (by decide) (by decide) with ⟨k, k1, k2, k3, k4, k5, k6⟩ | ⟨k1, k2, _⟩
    · obtain ⟨o', a', ea, ra'⟩ := hR.add hn (s, l, k) (show l < 2 ^ 31 by omega)
      obtain ⟨f', ef, hf⟩ := addRoute_r hr (by omega) (s, l, k)
      refine Or.inl ⟨(s, l, k), e + 1, o', a', f', nI s, nI l, ⟨v, show k < 6 by omega⟩, k3, by omega, ?_, ra', ?_, hf⟩
      · unfold mX2_readRoute
        rw [c1, Option.bind_some, c2, Option.bind_some, L0, L5, k5, Option.bind_some, if_pos (show ((nI len, nI (e + 1), (-9 : Int32)) : I3).2.2 = -9 from rfl), show mX1_addRange ro ra (nI s) (nI l) (nI k) (nI 0) (nI 0) = some (nI R.length, o', a') from ea, Option.bind_some]
      · unfold mX4_readOneRoute
        rw [r1, Option.bind_some, if_pos rfl, L0, L5, k6, Option.bind_some, if_neg (show ¬ nI k = (-9 : Int32) from nI_m9 (by omega)), show mX4_addRoute rr (nI s) (nI l) (nI k) = some f' from ef, Option.bind_some]
    · refine Or.inr ⟨e, nI s, nI l, e1, ?_, ?_⟩
      · unfold mX2_readRoute
        rw [c1, Option.bind_some, c2, Option.bind_some, L0, L5, k1, Option.bind_some, if_neg (show ¬ nI e = (-9 : Int32) from nI_m9 (by omega))]
      · unfold mX4_readOneRoute
        rw [r1, Option.bind_some, if_pos rfl, L0, L5, k2, Option.bind_some, if_pos rfl]
  · refine Or.inr ⟨f, st', ln', f1, ?_, ?_⟩
    · unfold mX2_readRoute
      rw [c1, Option.bind_some, c2, Option.bind_some, fig_flt (by omega), Option.bind_some, if_neg (show ¬ nI f = (-9 : Int32) from nI_m9 (by omega))]
    · unfold mX4_readOneRoute
      rw [r1, Option.bind_some, if_neg Bool.false_ne_true]
theorem readPaper_l (hlen : len ≤ 99) (hL : ∀ j, j < len → L j = nI (q j)) (hT : ∀ j, j < len → T j = nI (q j)) (hq : ∀ j, j < len → q j < 256) {a : Nat} (ha : a ≤ len) (b : MO) (hb : b.1 = nI len) (st ln : Int32) (hP : PapC P po pa) (h0 : 0 < P.length) (hn : P.length < 6) (hr : PapR1 P rp) :
    (∃ x e po' pa' rp' st' ln', (x.1 < P.length ∧ rgOk x.2.1 x.2.2.1 ∧ x.2.2.2 ≤ 9) ∧ e ≤ len ∧ a < e ∧ mX2_readPaper (nI len, nI a, (-9 : Int32)) po L pa = some ((nI len, nI e, (-9 : Int32)), po', pa') ∧ PapC (P ++ [x]) po' pa' ∧ mX4_readOnePaper (mkT b (nI a) (nI P.length) st ln) T rp = some (true, mkT b (nI e) (nI (P.length + 1)) st' ln', rp') ∧ PapR1 (P ++ [x]) rp') ∨
    (∃ f st' ln', f ≤ len ∧ mX2_readPaper (nI len, nI a, (-9 : Int32)) po L pa = some ((nI len, nI f, nI f), po, pa) ∧ mX4_readOnePaper (mkT b (nI a) (nI P.length) st ln) T rp = some (false, mkT b (nI f) (nI P.length) st' ln', rp)) := by
  have ec : po.2.2 - (1 : Int32) = nI (P.length - 1) := by rw [hP.cnt, L1, pk_sub h0]
  have er : nI P.length - (1 : Int32) = nI (P.length - 1) := by rw [L1, pk_sub h0]
  rcases fig hlen hL hT hq ha b hb (nI P.length) st ln (lo := 0) (hi := P.length - 1) (by decide) (by omega) with ⟨z, z1, z2, z3, z4, z5, z6⟩ | ⟨z1, z2, _⟩
  · rcases rng hlen hL hT hq (show a + 1 ≤ len by omega) b hb (nI P.length) st ln with ⟨s, l, p, e, v, e1, e2, c1, c2, r1⟩ | ⟨s, l, c, f, st', ln', s1, l1, f1, c1, c2, r1⟩
    · have hl := v.1
      rcases fig hlen hL hT hq e1 b hb (nI P.length) (nI s) (nI l) (lo := 0) (hi := 9) (by decide) (by decide) with ⟨k, k1, k2, k3, k4, k5, k6⟩ | ⟨k1, k2, _⟩
      · rw [← L9] at k5 k6
        obtain ⟨o', a', ea, ra'⟩ := hP.add hn h0 (z, s, l, k) (show l < 2 ^ 31 by omega)
        refine Or.inl ⟨(z, s, l, k), e + 1, o', a', upd (upd (upd (upd rp (4 * P.length) (nI z)) (4 * P.length + 1) (nI s)) (4 * P.length + 2) (nI l)) (4 * P.length + 3) (nI k), nI s, nI l, ⟨show z < P.length by omega, v, k2⟩, k3, by omega, ?_, ra', ?_, ?_⟩
        · unfold mX2_readPaper
          rw [ec, L0, z5, Option.bind_some, c1, Option.bind_some, c2, Option.bind_some, k5, Option.bind_some, if_pos (show ((nI len, nI (e + 1), (-9 : Int32)) : I3).2.2 = -9 from rfl), show mX1_addRange po pa (nI s) (nI l) (nI z) (nI k) (nI 0) = some (nI P.length, o', a') from ea, Option.bind_some]
        · unfold mX4_readOnePaper
          dsimp only
          rw [er, L0, z6, Option.bind_some, if_neg (show ¬ nI z = (-9 : Int32) from nI_m9 (by omega)), r1, Option.bind_some, if_pos rfl, k6, Option.bind_some, if_neg (show ¬ nI k = (-9 : Int32) from nI_m9 (by omega))]
          dsimp only
          rw [show (4 : Int32) * nI P.length = nI (4 * P.length) from pk_mul 4 _, show nI (4 * P.length) + (1 : Int32) = nI (4 * P.length + 1) from nI_1 _, show nI (4 * P.length) + (2 : Int32) = nI (4 * P.length + 2) from nI_add _ 2, show nI (4 * P.length) + (3 : Int32) = nI (4 * P.length + 3) from nI_add _ 3, wr_ok rfl (by omega) (by decide), wr_ok rfl (by omega) (by decide), wr_ok rfl (by omega) (by decide), wr_ok rfl (by omega) (by decide), nI_1]
        · intro i i0 hi
          rw [List.length_append] at hi
          have hi' : i < P.length + 1 := hi
          unfold pA
          by_cases y : i = P.length
          · subst y
            rw [gd_eq]
            refine ⟨?_, ?_, ?_, pk_us⟩
            · rw [pk_un (by omega), pk_un (by omega), pk_un (by omega), pk_us]
            · rw [pk_un (by omega), pk_un (by omega), pk_us]
            · rw [pk_un (by omega), pk_us]
          · rw [gd_lt _ _ _ (by omega)]
            obtain ⟨y1, y2, y3, y4⟩ := hr i i0 (by omega)
            refine ⟨?_, ?_, ?_, ?_⟩
            · rw [pk_un (by omega), pk_un (by omega), pk_un (by omega), pk_un (by omega)]; exact y1
            · rw [pk_un (by omega), pk_un (by omega), pk_un (by omega), pk_un (by omega)]; exact y2
            · rw [pk_un (by omega), pk_un (by omega), pk_un (by omega), pk_un (by omega)]; exact y3
            · rw [pk_un (by omega), pk_un (by omega), pk_un (by omega), pk_un (by omega)]; exact y4
      · rw [← L9] at k1 k2
        refine Or.inr ⟨e, nI s, nI l, e1, ?_, ?_⟩
        · unfold mX2_readPaper
          rw [ec, L0, z5, Option.bind_some, c1, Option.bind_some, c2, Option.bind_some, k1, Option.bind_some, if_neg (show ¬ nI e = (-9 : Int32) from nI_m9 (by omega))]
        · unfold mX4_readOnePaper
          dsimp only
          rw [er, L0, z6, Option.bind_some, if_neg (show ¬ nI z = (-9 : Int32) from nI_m9 (by omega)), r1, Option.bind_some, if_pos rfl, k2, Option.bind_some, if_pos rfl]
    · refine Or.inr ⟨f, st', ln', f1, ?_, ?_⟩
      · unfold mX2_readPaper
        rw [ec, L0, z5, Option.bind_some, c1, Option.bind_some, c2, Option.bind_some, fig_flt (by omega), Option.bind_some, if_neg (show ¬ nI f = (-9 : Int32) from nI_m9 (by omega))]
      · unfold mX4_readOnePaper
        dsimp only
        rw [er, L0, z6, Option.bind_some, if_neg (show ¬ nI z = (-9 : Int32) from nI_m9 (by omega)), r1, Option.bind_some, if_neg Bool.false_ne_true]
  · refine Or.inr ⟨a, st, ln, ha, ?_, ?_⟩
    · unfold mX2_readPaper
      rw [ec, L0, z1, Option.bind_some, start_flt (by omega), Option.bind_some, len_c (by decide), fig_flt (by omega), Option.bind_some, fig_flt (by omega), Option.bind_some, if_neg (show ¬ nI a = (-9 : Int32) from nI_m9 (by omega))]
    · unfold mX4_readOnePaper
      dsimp only
      rw [er, L0, z2, Option.bind_some, if_pos rfl]
theorem readGrant_l (hlen : len ≤ 99) (hL : ∀ j, j < len → L j = nI (q j)) (hT : ∀ j, j < len → T j = nI (q j)) (hq : ∀ j, j < len → q j < 256) {a : Nat} (ha : a ≤ len) (b : MO) (hb : b.1 = nI len) (st ln : Int32) (hP : po.2.2 = nI P.length) (h0 : 0 < P.length) (hp6 : P.length ≤ 6) (hG : GrC G go ga) (hn : G.length < 8) {rev aside : Int32} {day : Nat} (hr : RowR G R rev aside day rr) :
    (∃ x e go' ga' rr' st' ln', gOk P.length x ∧ e ≤ len ∧ a < e ∧ mX2_readGrant (nI len, nI a, (-9 : Int32)) L po go ga = some ((nI len, nI e, (-9 : Int32)), go', ga') ∧ GrC (G ++ [x]) go' ga' ∧ mX4_readOneGrant (mkT b (nI a) (nI P.length) st ln) T rr = some (true, mkT b (nI e) (nI P.length) st' ln', rr') ∧ RowR (G ++ [x]) R rev aside day rr') ∨
    (∃ f st' ln', f ≤ len ∧ mX2_readGrant (nI len, nI a, (-9 : Int32)) L po go ga = some ((nI len, nI f, nI f), go, ga) ∧ mX4_readOneGrant (mkT b (nI a) (nI P.length) st ln) T rr = some (false, mkT b (nI f) (nI P.length) st' ln', rr)) := by
  have ec : po.2.2 - (1 : Int32) = nI (P.length - 1) := by rw [hP, L1, pk_sub h0]
  have er : nI P.length - (1 : Int32) = nI (P.length - 1) := by rw [L1, pk_sub h0]
  -- the holder
  have hh : (∃ z, (z < P.length ∨ z = 9) ∧ a < len ∧ mX2_readHolder (nI len, nI a, (-9 : Int32)) L po = some (nI z, (nI len, nI (a + 1), (-9 : Int32))) ∧ mX4_readOneGrant (mkT b (nI a) (nI P.length) st ln) T rr = mX4_readOneGrant_b47 T rr (nI z) (mkT b (nI (a + 1)) (nI P.length) st ln)) ∨
      (∃ z, z < 2 ^ 31 ∧ mX2_readHolder (nI len, nI a, (-9 : Int32)) L po = some (nI z, (nI len, nI a, nI a)) ∧ mX4_readOneGrant (mkT b (nI a) (nI P.length) st ln) T rr = mX4_readOneGrant_b47 T rr (-9 : Int32) (mkT b (nI a) (nI P.length) st ln)) := by
    have low : mX2_readHolder (nI len, nI a, (-9 : Int32)) L po = mX2_readHolder_b18 (nI len, nI a, (-9 : Int32)) L po false → mX4_readOneGrant (mkT b (nI a) (nI P.length) st ln) T rr = mX4_readOneGrant_b36 (mkT b (nI a) (nI P.length) st ln) T rr → (∃ z, (z < P.length ∨ z = 9) ∧ a < len ∧ mX2_readHolder (nI len, nI a, (-9 : Int32)) L po = some (nI z, (nI len, nI (a + 1), (-9 : Int32))) ∧ mX4_readOneGrant (mkT b (nI a) (nI P.length) st ln) T rr = mX4_readOneGrant_b47 T rr (nI z) (mkT b (nI (a + 1)) (nI P.length) st ln)) ∨
      (∃ z, z < 2 ^ 31 ∧ mX2_readHolder (nI len, nI a, (-9 : Int32)) L po = some (nI z, (nI len, nI a, nI a)) ∧ mX4_readOneGrant (mkT b (nI a) (nI P.length) st ln) T rr = mX4_readOneGrant_b47 T rr (-9 : Int32) (mkT b (nI a) (nI P.length) st ln)) := by
      intro c1 r1
      unfold mX2_readHolder_b18 at c1
      unfold mX4_readOneGrant_b36 at r1
      dsimp only at r1
      rw [if_neg Bool.false_ne_true, ec, L0] at c1
      rw [er, L0] at r1
      rcases fig hlen hL hT hq ha b hb (nI P.length) st ln (lo := 0) (hi := P.length - 1) (by decide) (by omega) with ⟨z, z1, z2, z3, z4, z5, z6⟩ | ⟨z1, z2, _⟩
      · refine Or.inl ⟨z, Or.inl (by omega), z3, ?_, ?_⟩
        · rw [c1, z5, Option.bind_some]
        · rw [r1, z6, Option.bind_some]
      · refine Or.inr ⟨0, by decide, ?_, ?_⟩
        · rw [c1, z1, Option.bind_some]
        · rw [r1, z2, Option.bind_some]
    by_cases hal : a < len
    · have el : mX2_letterAt (nI len, nI a, (-9 : Int32)) L (nI a) = some (nI (q a)) := letter_in hlen hL hq hal _ _
      have hqa := hq a hal
      have hc : mX2_readHolder (nI len, nI a, (-9 : Int32)) L po = if nI (q a) = (57 : Int32) then mX2_readHolder_b18 (nI len, nI a, (-9 : Int32)) L po true else mX2_readHolder_b18 (nI len, nI a, (-9 : Int32)) L po false := by
        unfold mX2_readHolder
        dsimp only
        rw [el, Option.bind_some]
      have hrf : mX4_readOneGrant (mkT b (nI a) (nI P.length) st ln) T rr = if nI (q a) = (57 : Int32) then (mX4_figure (mkT b (nI a) (nI P.length) st ln) T (9 : Int32) (9 : Int32)).bind (fun x30 => mX4_readOneGrant_b47 T rr x30.1 x30.2) else mX4_readOneGrant_b36 (mkT b (nI a) (nI P.length) st ln) T rr := by
        unfold mX4_readOneGrant
        dsimp only
        rw [if_neg (show ¬ b.1 ≤ nI a by rw [hb]; exact nI_ge hal (by omega)), rd_ok rfl (by omega) (by decide), hT a hal]
      by_cases h57 : q a = 57
      · have e57 : nI (q a) = (57 : Int32) := by rw [h57]; rfl
        rw [if_pos e57] at hc hrf
        unfold mX2_readHolder_b18 at hc
        rw [if_pos rfl] at hc
        rcases fig hlen hL hT hq ha b hb (nI P.length) st ln (lo := 9) (hi := 9) (by decide) (by decide) with ⟨z, z1, z2, z3, z4, z5, z6⟩ | ⟨z1, z2, z3⟩
        · rw [← L9] at z5 z6
          refine Or.inl ⟨z, Or.inr (by omega), z3, ?_, ?_⟩
          · rw [hc, z5, Option.bind_some]
          · rw [hrf, z6, Option.bind_some]
        · rcases z3 with y | y
          · omega
          · exact absurd h57 (y 9 (by decide) (by decide))
      · have n57 : ¬ nI (q a) = (57 : Int32) := fun z => h57 ((nI_eq (b := 57) (by omega) (by decide)).mp z)
        rw [if_neg n57] at hc hrf
        exact low hc hrf
    · refine low ?_ ?_
      · unfold mX2_readHolder
        dsimp only
        rw [letter_out hlen (by omega) (by omega), Option.bind_some, if_neg (by decide)]
      · unfold mX4_readOneGrant
        dsimp only
        rw [if_pos (show b.1 ≤ nI a by rw [hb]; exact nI_le (by omega) (by omega))]
  rcases hh with ⟨z, hz, hal, c0, r0⟩ | ⟨z, hz, c0, r0⟩
  · have hz9 : z ≤ 9 := by omega
    unfold mX4_readOneGrant_b47 at r0
    rw [if_neg (nI_m9 (f := z) (by omega)), L0, L5] at r0
    rcases fig hlen hL hT hq (show a + 1 ≤ len by omega) b hb (nI P.length) st ln (lo := 0) (hi := 5) (by decide) (by decide) with ⟨o, o1, o2, o3, o4, o5, o6⟩ | ⟨o1, o2, _⟩
    · rw [o6, Option.bind_some] at r0
      unfold mX4_readOneGrant_b65 at r0
      rw [if_neg (nI_m9 (f := o) (by omega))] at r0
      rcases rng hlen hL hT hq (show a + 1 + 1 ≤ len by omega) b hb (nI P.length) st ln with ⟨s, l, p, e, v, e1, e2, c1, c2, r1⟩ | ⟨s, l, c, f, st', ln', s1, l1, f1, c1, c2, r1⟩
      · have hl := v.1
        rw [r1, Option.bind_some, if_pos rfl] at r0
        dsimp only at r0
        rw [L5] at r0
        rcases fig hlen hL hT hq e1 b hb (nI P.length) (nI s) (nI l) (lo := l) (hi := 5) (by omega) (by decide) with ⟨k, k1, k2, k3, k4, k5, k6⟩ | ⟨k1, k2, _⟩
        · obtain ⟨o', a', ea, ra'⟩ := hG.add hn (z, o, s, l, k) (show l < 2 ^ 31 by omega)
          obtain ⟨f', ef, hf⟩ := addGrant_r hr hn (z, o, s, l, k)
          refine Or.inl ⟨(z, o, s, l, k), e + 1, o', a', f', nI s, nI l, ⟨hz, show o < 6 by omega, v, k1, k2⟩, k3, by omega, ?_, ra', ?_, hf⟩
          · unfold mX2_readGrant
            rw [c0, Option.bind_some, L0, L5, o5, Option.bind_some, c1, Option.bind_some, c2, Option.bind_some, k5, Option.bind_some, if_pos (show ((nI len, nI (e + 1), (-9 : Int32)) : I3).2.2 = -9 from rfl), show mX1_addRange go ga (nI s) (nI l) (nI o) (nI z) (nI k) = some (nI G.length, o', a') from ea, Option.bind_some]
          · rw [r0, k6, Option.bind_some, if_neg (show ¬ nI k = (-9 : Int32) from nI_m9 (by omega)), show mX4_addGrant rr (nI z) (nI o) (nI s) (nI l) (nI k) = some f' from ef, Option.bind_some]
        · refine Or.inr ⟨e, nI s, nI l, e1, ?_, ?_⟩
          · unfold mX2_readGrant
            rw [c0, Option.bind_some, L0, L5, o5, Option.bind_some, c1, Option.bind_some, c2, Option.bind_some, k1, Option.bind_some, if_neg (show ¬ nI e = (-9 : Int32) from nI_m9 (by omega))]
          · rw [r0, k2, Option.bind_some, if_pos rfl]
      · refine Or.inr ⟨f, st', ln', f1, ?_, ?_⟩
        · unfold mX2_readGrant
          rw [c0, Option.bind_some, L0, L5, o5, Option.bind_some, c1, Option.bind_some, c2, Option.bind_some, fig_flt (by omega), Option.bind_some, if_neg (show ¬ nI f = (-9 : Int32) from nI_m9 (by omega))]
        · rw [r0, r1, Option.bind_some, if_neg Bool.false_ne_true]
    · refine Or.inr ⟨a + 1, st, ln, by omega, ?_, ?_⟩
      · unfold mX2_readGrant
        rw [c0, Option.bind_some, L0, L5, o1, Option.bind_some, start_flt (by omega), Option.bind_some, len_c (by decide), fig_flt (by omega), Option.bind_some, fig_flt (by omega), Option.bind_some, if_neg (show ¬ nI (a + 1) = (-9 : Int32) from nI_m9 (by omega))]
      · rw [r0, o2, Option.bind_some]
        unfold mX4_readOneGrant_b65
        rw [if_pos rfl]
  · refine Or.inr ⟨a, st, ln, ha, ?_, ?_⟩
    · unfold mX2_readGrant
      rw [c0, Option.bind_some, fig_flt (by omega), Option.bind_some, start_flt (by omega), Option.bind_some, len_c (by decide), fig_flt (by omega), Option.bind_some, fig_flt (by omega), Option.bind_some, if_neg (show ¬ nI a = (-9 : Int32) from nI_m9 (by omega))]
    · rw [r0]
      unfold mX4_readOneGrant_b47
      rw [if_pos rfl]
      unfold mX4_readOneGrant_b65
      rw [if_pos rfl]
end TY
