section TZ
variable {len : Nat} {L T : Nat → Int32} {q : Nat → Nat} {P : List PN} {G : List GN} {R : List RN} {po go ro : I3} {pa ga ra : Ar} {rr rp : Nat → Int32}
theorem RSok.pap (h : RSok P G R) (hn : P.length < 6) {x : PN} (hx : x.1 < P.length ∧ rgOk x.2.1 x.2.2.1 ∧ x.2.2.2 ≤ 9) : RSok (P ++ [x]) G R := by
  obtain ⟨⟨p1, p2, p3, p4⟩, g1, g2, r1, r2⟩ := h
  have hl : (P ++ [x]).length = P.length + 1 := by rw [List.length_append]; rfl
  refine ⟨⟨by omega, by omega, ?_, fun i i0 hi => ?_⟩, g1, fun k hk => by rw [hl]; exact (g2 k hk).up, r1, r2⟩
  · unfold pA; rw [gd_lt _ _ _ (by omega)]; exact p3
  · rw [hl] at hi
    unfold pA
    by_cases z : i = P.length
    · subst z; rw [gd_eq]; exact hx
    · rw [gd_lt _ _ _ (by omega)]; exact p4 i i0 (by omega)
theorem RSok.grt (h : RSok P G R) (hn : G.length < 8) {x : GN} (hx : gOk P.length x) : RSok P (G ++ [x]) R := by
  obtain ⟨hp, g1, g2, r1, r2⟩ := h
  have hl : (G ++ [x]).length = G.length + 1 := by rw [List.length_append]; rfl
  refine ⟨hp, by omega, fun k hk => ?_, r1, r2⟩
  rw [hl] at hk
  unfold gA
  by_cases z : k = G.length
  · subst z; rw [gd_eq]; exact hx
  · rw [gd_lt _ _ _ (by omega)]; exact g2 k (by omega)
theorem RSok.rte (h : RSok P G R) (hn : R.length < 6) {x : RN} (hx : rOk x) : RSok P G (R ++ [x]) := by
  obtain ⟨hp, g1, g2, r1, r2⟩ := h
  have hl : (R ++ [x]).length = R.length + 1 := by rw [List.length_append]; rfl
  exact ⟨hp, g1, g2, by omega, rok_app r2 hx⟩
set_option maxHeartbeats 1000000 in
theorem readPart_l (hlen : len ≤ 99) (hL : ∀ j, j < len → L j = nI (q j)) (hT : ∀ j, j < len → T j = nI (q j)) (hq : ∀ j, j < len → q j < 256) {a : Nat} (ha : a < len) (b : MO) (hb : b.1 = nI len) (st ln : Int32) (hk : RSok P G R) (hc : RSc P G R po pa go ga ro ra) (hr : RSr P G R rr rp) :
    (∃ P' G' R' e st' ln' po' pa' go' ga' ro' ra' rr' rp', RSok P' G' R' ∧ e ≤ len ∧ a < e ∧ mX2_readPart (nI len, nI a, (-9 : Int32)) L ro ra go po ga pa = some ((nI len, nI e, (-9 : Int32)), ro', ra', go', po', ga', pa') ∧ RSc P' G' R' po' pa' go' ga' ro' ra' ∧ mX4_readPart (mkT b (nI a) (nI P.length) st ln) T rr rp = some (true, mkT b (nI e) (nI P'.length) st' ln', rr', rp') ∧ RSr P' G' R' rr' rp') ∨
    (∃ f st' ln', f ≤ len ∧ mX2_readPart (nI len, nI a, (-9 : Int32)) L ro ra go po ga pa = some ((nI len, nI f, nI f), ro, ra, go, po, ga, pa) ∧ mX4_readPart (mkT b (nI a) (nI P.length) st ln) T rr rp = some (false, mkT b (nI f) (nI P.length) st' ln', rr, rp)) := by
  obtain ⟨kP, kG, kG2, kR, kR2⟩ := id hk
  obtain ⟨cP, cG, cR⟩ := id hc
  obtain ⟨rW, rP⟩ := id hr
  have hP1 := kP.1
  have hP6 := kP.2.1
  have hqa := hq a ha
  have el : mX2_letterAt (nI len, nI a, (-9 : Int32)) L (nI a) = some (nI (q a)) := letter_in hlen hL hq ha _ _
  have ne : ∀ {x : Nat}, x < 2 ^ 31 → q a ≠ x → ¬ nI (q a) = nI x := fun {x} h1 h2 z => h2 ((nI_eq (by omega) h1).mp z)
  have ec : mX2_readPart (nI len, nI a, (-9 : Int32)) L ro ra go po ga pa = if nI (q a) = (112 : Int32) then (if (6 : Int32) ≤ po.2.2 then mX2_readPart_b44 (nI len, nI a, (-9 : Int32)) L ro ra go po ga pa (nI (q a)) else (mX2_readPaper (nI len, nI (a + 1), (-9 : Int32)) po L pa).bind (fun x38 => some (x38.1, ro, ra, go, x38.2.1, ga, x38.2.2))) else mX2_readPart_b44 (nI len, nI a, (-9 : Int32)) L ro ra go po ga pa (nI (q a)) := by
    unfold mX2_readPart
    dsimp only
    rw [el, Option.bind_some, nI_1]
  have er : mX4_readPart (mkT b (nI a) (nI P.length) st ln) T rr rp = if nI (q a) = (112 : Int32) then (if nI P.length < (6 : Int32) then mX4_readPart_b65 (mkT b (nI a) (nI P.length) st ln) T rr rp (nI (q a)) true else mX4_readPart_b25 (mkT b (nI a) (nI P.length) st ln) T rr rp (nI (q a))) else mX4_readPart_b25 (mkT b (nI a) (nI P.length) st ln) T rr rp (nI (q a)) := by
    unfold mX4_readPart
    dsimp only
    rw [rd_ok rfl (by omega) (by decide), hT a ha]
  have e44 : mX2_readPart_b44 (nI len, nI a, (-9 : Int32)) L ro ra go po ga pa (nI (q a)) = if nI (q a) = (103 : Int32) then (if (8 : Int32) ≤ nI G.length then mX2_readPart_b79 (nI len, nI a, (-9 : Int32)) L ro ra go po ga pa (nI (q a)) else (mX2_readGrant (nI len, nI (a + 1), (-9 : Int32)) L po go ga).bind (fun x73 => some (x73.1, ro, ra, x73.2.1, po, x73.2.2, pa))) else mX2_readPart_b79 (nI len, nI a, (-9 : Int32)) L ro ra go po ga pa (nI (q a)) := by
    unfold mX2_readPart_b44
    dsimp only
    rw [cG.cnt, nI_1]
  have e79 : mX2_readPart_b79 (nI len, nI a, (-9 : Int32)) L ro ra go po ga pa (nI (q a)) = if nI (q a) = (114 : Int32) then (if (6 : Int32) ≤ nI R.length then some ((nI len, nI a, nI a), ro, ra, go, po, ga, pa) else (mX2_readRoute (nI len, nI (a + 1), (-9 : Int32)) L ro ra).bind (fun x108 => some (x108.1, x108.2.1, x108.2.2, go, po, ga, pa))) else some ((nI len, nI a, nI a), ro, ra, go, po, ga, pa) := by
    unfold mX2_readPart_b79
    dsimp only
    rw [cR.cnt, nI_1]
  have f25 : mX4_readPart_b25 (mkT b (nI a) (nI P.length) st ln) T rr rp (nI (q a)) = if nI (q a) = (103 : Int32) then (if nI G.length < (8 : Int32) then mX4_readPart_b65 (mkT b (nI a) (nI P.length) st ln) T rr rp (nI (q a)) true else mX4_readPart_b42 (mkT b (nI a) (nI P.length) st ln) T rr rp (nI (q a))) else mX4_readPart_b42 (mkT b (nI a) (nI P.length) st ln) T rr rp (nI (q a)) := by
    unfold mX4_readPart_b25
    rw [rd_ok (show (0 : Int32) = nI 0 from rfl) (by decide) (by decide), rW.2.2.1]
  have f42 : mX4_readPart_b42 (mkT b (nI a) (nI P.length) st ln) T rr rp (nI (q a)) = if nI (q a) = (114 : Int32) then (if (6 : Int32) ≤ nI R.length then mX4_readPart_b65 (mkT b (nI a) (nI P.length) st ln) T rr rp (nI (q a)) false else mX4_readPart_b65 (mkT b (nI a) (nI P.length) st ln) T rr rp (nI (q a)) true) else mX4_readPart_b65 (mkT b (nI a) (nI P.length) st ln) T rr rp (nI (q a)) false := by
    unfold mX4_readPart_b42
    rw [rd_ok (show (41 : Int32) = nI 41 from rfl) (by decide) (by decide), rW.2.2.2.2.1]
  have f65 : mX4_readPart_b65 (mkT b (nI a) (nI P.length) st ln) T rr rp (nI (q a)) true = if nI (q a) = (112 : Int32) then (mX4_readOnePaper (mkT b (nI (a + 1)) (nI P.length) st ln) T rp).bind (fun x89 => some (x89.1, x89.2.1, rr, x89.2.2)) else (if nI (q a) = (103 : Int32) then (mX4_readOneGrant (mkT b (nI (a + 1)) (nI P.length) st ln) T rr).bind (fun x102 => some (x102.1, x102.2.1, x102.2.2, rp)) else (mX4_readOneRoute (mkT b (nI (a + 1)) (nI P.length) st ln) T rr).bind (fun x109 => some (x109.1, x109.2.1, x109.2.2, rp))) := by
    unfold mX4_readPart_b65
    dsimp only
    rw [if_pos rfl, nI_1]
  have f65f : mX4_readPart_b65 (mkT b (nI a) (nI P.length) st ln) T rr rp (nI (q a)) false = some (false, mkT b (nI a) (nI P.length) st ln, rr, rp) := by
    unfold mX4_readPart_b65
    rw [if_neg Bool.false_ne_true]
  have bad : mX2_readPart (nI len, nI a, (-9 : Int32)) L ro ra go po ga pa = some ((nI len, nI a, nI a), ro, ra, go, po, ga, pa) → mX4_readPart (mkT b (nI a) (nI P.length) st ln) T rr rp = some (false, mkT b (nI a) (nI P.length) st ln, rr, rp) → (∃ P' G' R' e st' ln' po' pa' go' ga' ro' ra' rr' rp', RSok P' G' R' ∧ e ≤ len ∧ a < e ∧ mX2_readPart (nI len, nI a, (-9 : Int32)) L ro ra go po ga pa = some ((nI len, nI e, (-9 : Int32)), ro', ra', go', po', ga', pa') ∧ RSc P' G' R' po' pa' go' ga' ro' ra' ∧ mX4_readPart (mkT b (nI a) (nI P.length) st ln) T rr rp = some (true, mkT b (nI e) (nI P'.length) st' ln', rr', rp') ∧ RSr P' G' R' rr' rp') ∨
    (∃ f st' ln', f ≤ len ∧ mX2_readPart (nI len, nI a, (-9 : Int32)) L ro ra go po ga pa = some ((nI len, nI f, nI f), ro, ra, go, po, ga, pa) ∧ mX4_readPart (mkT b (nI a) (nI P.length) st ln) T rr rp = some (false, mkT b (nI f) (nI P.length) st' ln', rr, rp)) := fun h1 h2 => Or.inr ⟨a, st, ln, by omega, h1, h2⟩
  by_cases h112 : q a = 112
  · have i1 : nI (q a) = (112 : Int32) := by rw [h112]; rfl
    have i2 : ¬ nI (q a) = (103 : Int32) := ne (x := 103) (by decide) (by omega)
    have i3 : ¬ nI (q a) = (114 : Int32) := ne (x := 114) (by decide) (by omega)
    rw [if_pos i1, cP.cnt] at ec
    rw [if_pos i1] at er
    rw [if_neg i2] at e44 f25
    rw [if_neg i3] at e79 f42
    by_cases h6 : P.length < 6
    · rw [if_neg (show ¬ (6 : Int32) ≤ nI P.length by rw [L6]; exact nI_ge h6 (by decide))] at ec
      rw [if_pos (show nI P.length < (6 : Int32) from nI_lt (b := 6) h6 (by decide)), f65, if_pos i1] at er
      rcases readPaper_l hlen hL hT hq (show a + 1 ≤ len by omega) b hb st ln cP hP1 h6 rP with ⟨x, e, po', pa', rp', st', ln', x1, x2, x3, x4, x5, x6, x7⟩ | ⟨f, st', ln', x1, x2, x3⟩
      · rw [x4, Option.bind_some] at ec
        rw [x6, Option.bind_some] at er
        refine Or.inl ⟨P ++ [x], G, R, e, st', ln', po', pa', go, ga, ro, ra, rr, rp', hk.pap h6 x1, x2, by omega, ec, ⟨x5, cG, cR⟩, ?_, rW, x7⟩
        rw [er, List.length_append]
        rfl
      · rw [x2, Option.bind_some] at ec
        rw [x3, Option.bind_some] at er
        exact Or.inr ⟨f, st', ln', x1, ec, er⟩
    · rw [if_pos (show (6 : Int32) ≤ nI P.length from nI_le (a := 6) (by omega) (by omega)), e44, e79] at ec
      rw [if_neg (show ¬ nI P.length < (6 : Int32) by rw [L6]; exact nI_nlt (by omega) (by omega)), f25, f42, f65f] at er
      exact bad ec er
  · have i1 : ¬ nI (q a) = (112 : Int32) := ne (x := 112) (by decide) h112
    rw [if_neg i1, e44] at ec
    rw [if_neg i1, f25] at er
    rw [if_neg i1] at f65
    by_cases h103 : q a = 103
    · have i2 : nI (q a) = (103 : Int32) := by rw [h103]; rfl
      have i3 : ¬ nI (q a) = (114 : Int32) := ne (x := 114) (by decide) (by omega)
      rw [if_pos i2] at ec er f65
      rw [if_neg i3] at e79 f42
      by_cases h8 : G.length < 8
      · rw [if_neg (show ¬ (8 : Int32) ≤ nI G.length by rw [L8]; exact nI_ge h8 (by decide))] at ec
        rw [if_pos (show nI G.length < (8 : Int32) from nI_lt (b := 8) h8 (by decide)), f65] at er
        rcases readGrant_l hlen hL hT hq (show a + 1 ≤ len by omega) b hb st ln cP.cnt hP1 hP6 cG h8 rW with ⟨x, e, go', ga', rr', st', ln', x1, x2, x3, x4, x5, x6, x7⟩ | ⟨f, st', ln', x1, x2, x3⟩
        · rw [x4, Option.bind_some] at ec
          rw [x6, Option.bind_some] at er
          exact Or.inl ⟨P, G ++ [x], R, e, st', ln', po, pa, go', ga', ro, ra, rr', rp, hk.grt h8 x1, x2, by omega, ec, ⟨cP, x5, cR⟩, er, x7, rP⟩
        · rw [x2, Option.bind_some] at ec
          rw [x3, Option.bind_some] at er
          exact Or.inr ⟨f, st', ln', x1, ec, er⟩
      · rw [if_pos (show (8 : Int32) ≤ nI G.length from nI_le (a := 8) (by omega) (by omega)), e79] at ec
        rw [if_neg (show ¬ nI G.length < (8 : Int32) by rw [L8]; exact nI_nlt (by omega) (by omega)), f42, f65f] at er
        exact bad ec er
    · have i2 : ¬ nI (q a) = (103 : Int32) := ne (x := 103) (by decide) h103
      rw [if_neg i2] at ec er f65
      rw [e79] at ec
      rw [f42] at er
      by_cases h114 : q a = 114
      · have i3 : nI (q a) = (114 : Int32) := by rw [h114]; rfl
        rw [if_pos i3] at ec er
        by_cases h6 : R.length < 6
        · rw [if_neg (show ¬ (6 : Int32) ≤ nI R.length by rw [L6]; exact nI_ge h6 (by decide))] at ec er
          rw [f65] at er
          rcases readRoute_l hlen hL hT hq (show a + 1 ≤ len by omega) b hb (nI P.length) st ln cR h6 rW with ⟨x, e, ro', ra', rr', st', ln', x1, x2, x3, x4, x5, x6, x7⟩ | ⟨f, st', ln', x1, x2, x3⟩
          · rw [x4, Option.bind_some] at ec
            rw [x6, Option.bind_some] at er
            exact Or.inl ⟨P, G, R ++ [x], e, st', ln', po, pa, go, ga, ro', ra', rr', rp, hk.rte h6 x1, x2, by omega, ec, ⟨cP, cG, x5⟩, er, x7, rP⟩
          · rw [x2, Option.bind_some] at ec
            rw [x3, Option.bind_some] at er
            exact Or.inr ⟨f, st', ln', x1, ec, er⟩
        · rw [if_pos (show (6 : Int32) ≤ nI R.length from nI_le (a := 6) (by omega) (by omega))] at ec er
          rw [f65f] at er
          exact bad ec er
      · have i3 : ¬ nI (q a) = (114 : Int32) := ne (x := 114) (by decide) h114
        rw [if_neg i3] at ec er
        rw [f65f] at er
        exact bad ec er
end TZ
