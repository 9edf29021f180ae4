/-! what can be, in a day's judging -/
set_option maxHeartbeats 4000000 in
theorem canBe_b {P : List PN} {bk : Bk} (wP : PLok P) (wB : bkOk P.length bk) {po : I3} {pa : Ar} (cP : PapC P po pa) {bo go : I3} {ga : Ar} {ro : I3} {ra : Ar} (cN : BooksIs bk bo go ga ro ra) {fp w : Nat → Int32} (rP : PapR P fp) (rN : RowIs bk w) {t : MO} (ht : t.2.1 = nI P.length) {v : Int32} {a b c d : Nat} (ha : v / (1000 : Int32) = nI a) (hp2 : v - v / (100 : Int32) * (100 : Int32) = nI (10 * c + d)) (ha9 : a < 10) (hb9 : b < 10) (hc9 : c < 10) (hd9 : d < 10) :
    ∃ r bo' ro' ra' w' bk', mX0_canBe_b28 bo po ro pa go ga ra v (nI b) (nI d) (decide (c = 0)) = some (r, bo', ro', ra') ∧ mX4_judged_b14 t w fp (nI a) (nI b) (nI c) (nI d) (decide (c = 0) && decide (d = 0)) = some (r, w') ∧ bkOk P.length bk' ∧ BooksIs bk' bo' go ga ro' ra' ∧ RowIs bk' w' := by
  have hP6 := wP.2.1
  obtain ⟨bG1, bR1, bG, bR, bD⟩ := id wB
  obtain ⟨cb, cg, cr⟩ := id cN
  obtain ⟨n1, n2, z0, zg, z41, zr, z63, z64, z65⟩ := id rN
  have hday : bk.2.2.2.2 < 2 ^ 31 := by omega
  have n0 : ∀ {x : Nat}, ¬ x = 0 → x < 2 ^ 31 → ¬ nI x = (0 : Int32) := fun {x} h1 h2 z => h1 ((nI_eq (b := 0) h2 (by decide)).mp z)
  have K1 : ∀ {α : Type} (X Y : α), ¬ (c = 0 ∧ d = 0) → (if decide (c = 0) = true then (if nI d = (0 : Int32) then X else Y) else Y) = Y := by
    intro α X Y hcd
    by_cases c0 : c = 0
    · rw [decide_eq_true c0, if_pos rfl, if_neg (n0 (fun z => hcd ⟨c0, z⟩) (by omega))]
    · rw [decide_eq_false c0, if_neg Bool.false_ne_true]
  have K2 : ¬ (c = 0 ∧ d = 0) → (decide (c = 0) && decide (d = 0)) = false := by
    intro hcd
    by_cases c0 : c = 0
    · rw [decide_eq_false (p := d = 0) (fun z => hcd ⟨c0, z⟩), Bool.and_false]
    · rw [decide_eq_false c0, Bool.false_and]
  have NO : mX0_canBe_b28 bo po ro pa go ga ra v (nI b) (nI d) (decide (c = 0)) = some (false, bo, ro, ra) → mX4_judged_b14 t w fp (nI a) (nI b) (nI c) (nI d) (decide (c = 0) && decide (d = 0)) = some (false, w) → ∃ r bo' ro' ra' w' bk', mX0_canBe_b28 bo po ro pa go ga ra v (nI b) (nI d) (decide (c = 0)) = some (r, bo', ro', ra') ∧ mX4_judged_b14 t w fp (nI a) (nI b) (nI c) (nI d) (decide (c = 0) && decide (d = 0)) = some (r, w') ∧ bkOk P.length bk' ∧ BooksIs bk' bo' go ga ro' ra' ∧ RowIs bk' w' := fun e1 e2 => ⟨false, bo, ro, ra, w, bk, e1, e2, wB, cN, rN⟩
  have YES : mX0_canBe_b28 bo po ro pa go ga ra v (nI b) (nI d) (decide (c = 0)) = some (true, bo, ro, ra) → mX4_judged_b14 t w fp (nI a) (nI b) (nI c) (nI d) (decide (c = 0) && decide (d = 0)) = some (true, w) → ∃ r bo' ro' ra' w' bk', mX0_canBe_b28 bo po ro pa go ga ra v (nI b) (nI d) (decide (c = 0)) = some (r, bo', ro', ra') ∧ mX4_judged_b14 t w fp (nI a) (nI b) (nI c) (nI d) (decide (c = 0) && decide (d = 0)) = some (r, w') ∧ bkOk P.length bk' ∧ BooksIs bk' bo' go ga ro' ra' ∧ RowIs bk' w' := fun e1 e2 => ⟨true, bo, ro, ra, w, bk, e1, e2, wB, cN, rN⟩
  have fin : ∀ {x : Bool} {F : Bool → Bool → Option (Bool × (Nat → Int32))}, mX0_canBe_b28 bo po ro pa go ga ra v (nI b) (nI d) (decide (c = 0)) = (if b2i x = nI d then some (true, bo, ro, ra) else some (false, bo, ro, ra)) → mX4_judged_b14 t w fp (nI a) (nI b) (nI c) (nI d) (decide (c = 0) && decide (d = 0)) = (if (2 : Int32) ≤ nI d then some (false, w) else if nI d = (1 : Int32) then F true x else F false x) → (∀ p q, F p q = if b2i q = b2i p then some (true, w) else some (false, w)) → ∃ r bo' ro' ra' w' bk', mX0_canBe_b28 bo po ro pa go ga ra v (nI b) (nI d) (decide (c = 0)) = some (r, bo', ro', ra') ∧ mX4_judged_b14 t w fp (nI a) (nI b) (nI c) (nI d) (decide (c = 0) && decide (d = 0)) = some (r, w') ∧ bkOk P.length bk' ∧ BooksIs bk' bo' go ga ro' ra' ∧ RowIs bk' w' := by
    intro x F q1 q2 hF
    rcases (show d = 0 ∨ d = 1 ∨ 2 ≤ d by omega) with rfl | rfl | h2
    · rw [if_neg (by decide), if_neg (by decide), hF] at q2
      cases x with
      | true => exact NO (q1.trans (if_neg (by decide))) (q2.trans (if_neg (by decide)))
      | false => exact YES (q1.trans (if_pos (by decide))) (q2.trans (if_pos (by decide)))
    · rw [if_neg (by decide), if_pos (by decide), hF] at q2
      cases x with
      | true => exact YES (q1.trans (if_pos (by decide))) (q2.trans (if_pos (by decide)))
      | false => exact NO (q1.trans (if_neg (by decide))) (q2.trans (if_neg (by decide)))
    · refine NO (q1.trans (if_neg ?_)) (q2.trans (if_pos (nI_le (a := 2) h2 (by omega))))
      cases x with
      | true => exact fun z => absurd ((nI_eq (a := 1) (by decide) (by omega)).mp z) (by omega)
      | false => exact fun z => absurd ((nI_eq (a := 0) (by decide) (by omega)).mp z) (by omega)
  rcases (show a = 0 ∨ a = 1 ∨ a = 2 ∨ a = 3 ∨ a = 4 ∨ a = 5 ∨ a = 6 ∨ a = 7 ∨ a = 8 ∨ a = 9 by omega) with rfl | rfl | rfl | rfl | rfl | rfl | rfl | rfl | rfl | rfl
  · -- 0
    refine NO ?_ ?_
    · rw [mX0_canBe_b28, ha, if_neg (show ¬ nI 0 = (1 : Int32) by decide), if_neg (show ¬ nI 0 = (2 : Int32) by decide), if_neg (show ¬ nI 0 = (3 : Int32) by decide), if_neg (show ¬ nI 0 = (4 : Int32) by decide), if_neg (show ¬ nI 0 = (5 : Int32) by decide), if_neg (show ¬ nI 0 = (6 : Int32) by decide), if_neg (show ¬ nI 0 = (7 : Int32) by decide), if_neg (show ¬ nI 0 = (8 : Int32) by decide)]
    · rw [mX4_judged_b14, if_neg (show ¬ nI 0 = (1 : Int32) by decide), if_neg (show ¬ nI 0 = (2 : Int32) by decide), if_neg (show ¬ nI 0 = (3 : Int32) by decide), if_neg (show ¬ nI 0 = (4 : Int32) by decide), if_neg (show ¬ nI 0 = (5 : Int32) by decide), if_neg (show ¬ nI 0 = (6 : Int32) by decide), if_neg (show ¬ nI 0 = (7 : Int32) by decide), if_neg (show ¬ nI 0 = (8 : Int32) by decide)]
  · -- 1
    by_cases hcd : c = 0 ∧ d = 0
    · obtain ⟨rfl, rfl⟩ := hcd
      by_cases b0 : nI b = (0 : Int32)
      · refine NO ?_ ?_
        · rw [mX0_canBe_b28, ha, if_pos (show nI 1 = (1 : Int32) from rfl), show decide (0 = 0) = true from rfl, if_pos rfl, if_pos (show nI 0 = (0 : Int32) from rfl)]
          unfold mX0_canRevoke
          rw [if_pos b0]
          rfl
        · rw [mX4_judged_b14, if_pos (show nI 1 = (1 : Int32) from rfl), if_pos b0]
      · have e4 := isPaper_r ht (nI b)
        rcases idx_both cP (nI b) with ⟨i, hi, e, e1, e2⟩ | ⟨hne, e1, e2⟩
        · refine ⟨true, (bk.2.2.1 ^^^ ((1 : Int32) <<< (nI b &&& 31)), bo.2.1, bo.2.2), ro, ra, upd w 63 (bk.2.2.1 ^^^ ((1 : Int32) <<< (nI b &&& 31))), (bk.1, bk.2.1, bk.2.2.1 ^^^ ((1 : Int32) <<< (nI b &&& 31)), bk.2.2.2), ?_, ?_, ⟨bG1, bR1, bG, bR, bD⟩, ⟨by rw [cb], cg, cr⟩, RowR.rev rN _⟩
          · rw [mX0_canBe_b28, ha, if_pos (show nI 1 = (1 : Int32) from rfl), show decide (0 = 0) = true from rfl, if_pos rfl, if_pos (show nI 0 = (0 : Int32) from rfl)]
            unfold mX0_canRevoke
            rw [if_neg b0, e1, Option.bind_some, if_pos rfl, Option.bind_some, if_pos rfl, show bo.1 = bk.2.2.1 by rw [cb]]
          · rw [mX4_judged_b14, if_pos (show nI 1 = (1 : Int32) from rfl), if_neg b0, e4, e2, Option.bind_some, if_pos rfl, if_pos (show (decide (0 = 0) && decide (0 = 0)) = true from rfl), L63, rd_ok rfl (by decide) (by decide), z63, wr_ok rfl (by decide) (by decide)]
        · refine NO ?_ ?_
          · rw [mX0_canBe_b28, ha, if_pos (show nI 1 = (1 : Int32) from rfl), show decide (0 = 0) = true from rfl, if_pos rfl, if_pos (show nI 0 = (0 : Int32) from rfl)]
            unfold mX0_canRevoke
            rw [if_neg b0, e1]
            rfl
          · rw [mX4_judged_b14, if_pos (show nI 1 = (1 : Int32) from rfl), if_neg b0, e4, e2]
            rfl
    · refine NO ?_ ?_
      · rw [mX0_canBe_b28, ha, if_pos (show nI 1 = (1 : Int32) from rfl), K1 _ _ hcd]
      · rw [mX4_judged_b14, if_pos (show nI 1 = (1 : Int32) from rfl), K2 hcd]
        by_cases b0 : nI b = (0 : Int32)
        · rw [if_pos b0]
        · rw [if_neg b0, isPaper_r ht (nI b)]
          rcases idx_both cP (nI b) with ⟨i, hi, e, e1, e2⟩ | ⟨hne, e1, e2⟩
          · rw [e2]; rfl
          · rw [e2]; rfl
  · -- 2
    by_cases hcd : c = 0 ∧ d = 0
    · obtain ⟨rfl, rfl⟩ := hcd
      by_cases b0 : nI b = (0 : Int32)
      · by_cases h9 : bk.2.2.2.2 < 9
        · refine ⟨true, (bo.1, bo.2.1, nI (bk.2.2.2.2 + 1)), ro, ra, upd w 65 (nI (bk.2.2.2.2 + 1)), (bk.1, bk.2.1, bk.2.2.1, bk.2.2.2.1, bk.2.2.2.2 + 1), ?_, ?_, ⟨bG1, bR1, bG, bR, h9⟩, ⟨by rw [cb], cg, cr⟩, RowR.dayTo rN _⟩
          · rw [mX0_canBe_b28, ha, if_neg (show ¬ nI 2 = (1 : Int32) by decide), if_pos (show nI 2 = (2 : Int32) from rfl), show decide (0 = 0) = true from rfl, if_pos rfl, if_pos (show nI 0 = (0 : Int32) from rfl), if_pos b0]
            unfold mX0_canPassNight
            rw [show bo.2.2 = nI bk.2.2.2.2 by rw [cb], L9, if_pos (nI_lt h9 (by decide)), Option.bind_some, if_pos rfl, nI_1]
          · rw [mX4_judged_b14, if_neg (show ¬ nI 2 = (1 : Int32) by decide), if_pos (show nI 2 = (2 : Int32) from rfl), if_pos b0, if_pos (show (decide (0 = 0) && decide (0 = 0)) = true from rfl), L65, rd_ok rfl (by decide) (by decide), z65, if_neg (show ¬ nI bk.2.2.2.2 = (9 : Int32) from fun z => by rw [L9, nI_eq (by omega) (by decide)] at z; omega), rd_ok rfl (by decide) (by decide), z65, nI_1, wr_ok rfl (by decide) (by decide)]
        · have e9 : bk.2.2.2.2 = 9 := by omega
          refine NO ?_ ?_
          · rw [mX0_canBe_b28, ha, if_neg (show ¬ nI 2 = (1 : Int32) by decide), if_pos (show nI 2 = (2 : Int32) from rfl), show decide (0 = 0) = true from rfl, if_pos rfl, if_pos (show nI 0 = (0 : Int32) from rfl), if_pos b0]
            unfold mX0_canPassNight
            rw [show bo.2.2 = nI bk.2.2.2.2 by rw [cb], e9, if_neg (by decide)]
            rfl
          · rw [mX4_judged_b14, if_neg (show ¬ nI 2 = (1 : Int32) by decide), if_pos (show nI 2 = (2 : Int32) from rfl), if_pos b0, if_pos (show (decide (0 = 0) && decide (0 = 0)) = true from rfl), L65, rd_ok rfl (by decide) (by decide), z65, e9, if_pos (show nI 9 = (9 : Int32) from rfl)]
      · refine NO ?_ ?_
        · rw [mX0_canBe_b28, ha, if_neg (show ¬ nI 2 = (1 : Int32) by decide), if_pos (show nI 2 = (2 : Int32) from rfl), show decide (0 = 0) = true from rfl, if_pos rfl, if_pos (show nI 0 = (0 : Int32) from rfl), if_neg b0]
        · rw [mX4_judged_b14, if_neg (show ¬ nI 2 = (1 : Int32) by decide), if_pos (show nI 2 = (2 : Int32) from rfl), if_neg b0]
    · refine NO ?_ ?_
      · rw [mX0_canBe_b28, ha, if_neg (show ¬ nI 2 = (1 : Int32) by decide), if_pos (show nI 2 = (2 : Int32) from rfl), K1 _ _ hcd]
      · rw [mX4_judged_b14, if_neg (show ¬ nI 2 = (1 : Int32) by decide), if_pos (show nI 2 = (2 : Int32) from rfl), K2 hcd]
        by_cases b0 : nI b = (0 : Int32)
        · rw [if_pos b0]; rfl
        · rw [if_neg b0]
  · -- 3
    by_cases hcd : c = 0 ∧ d = 0
    · obtain ⟨rfl, rfl⟩ := hcd
      rcases org_any (nI b) with ⟨i, hi, e, e1, e2⟩ | ⟨e1, e2⟩
      · refine ⟨true, (bo.1, bk.2.2.2.1 ^^^ ((1 : Int32) <<< (nI b &&& 31)), bo.2.2), ro, ra, upd w 64 (bk.2.2.2.1 ^^^ ((1 : Int32) <<< (nI b &&& 31))), (bk.1, bk.2.1, bk.2.2.1, bk.2.2.2.1 ^^^ ((1 : Int32) <<< (nI b &&& 31)), bk.2.2.2.2), ?_, ?_, ⟨bG1, bR1, bG, bR, bD⟩, ⟨by rw [cb], cg, cr⟩, RowR.asd rN _⟩
        · rw [mX0_canBe_b28, ha, if_neg (show ¬ nI 3 = (1 : Int32) by decide), if_neg (show ¬ nI 3 = (2 : Int32) by decide), if_pos (show nI 3 = (3 : Int32) from rfl), show decide (0 = 0) = true from rfl, if_pos rfl, if_pos (show nI 0 = (0 : Int32) from rfl)]
          unfold mX0_canSetAside
          rw [e1, Option.bind_some, if_pos rfl, Option.bind_some, if_pos rfl, show bo.2.1 = bk.2.2.2.1 by rw [cb]]
        · rw [mX4_judged_b14, if_neg (show ¬ nI 3 = (1 : Int32) by decide), if_neg (show ¬ nI 3 = (2 : Int32) by decide), if_pos (show nI 3 = (3 : Int32) from rfl), e2, Option.bind_some, if_pos rfl, if_pos (show (decide (0 = 0) && decide (0 = 0)) = true from rfl), L64, rd_ok rfl (by decide) (by decide), z64, wr_ok rfl (by decide) (by decide)]
      · refine NO ?_ ?_
        · rw [mX0_canBe_b28, ha, if_neg (show ¬ nI 3 = (1 : Int32) by decide), if_neg (show ¬ nI 3 = (2 : Int32) by decide), if_pos (show nI 3 = (3 : Int32) from rfl), show decide (0 = 0) = true from rfl, if_pos rfl, if_pos (show nI 0 = (0 : Int32) from rfl)]
          unfold mX0_canSetAside
          rw [e1]
          rfl
        · rw [mX4_judged_b14, if_neg (show ¬ nI 3 = (1 : Int32) by decide), if_neg (show ¬ nI 3 = (2 : Int32) by decide), if_pos (show nI 3 = (3 : Int32) from rfl), e2]
          rfl
    · refine NO ?_ ?_
      · rw [mX0_canBe_b28, ha, if_neg (show ¬ nI 3 = (1 : Int32) by decide), if_neg (show ¬ nI 3 = (2 : Int32) by decide), if_pos (show nI 3 = (3 : Int32) from rfl), K1 _ _ hcd]
      · rw [mX4_judged_b14, if_neg (show ¬ nI 3 = (1 : Int32) by decide), if_neg (show ¬ nI 3 = (2 : Int32) by decide), if_pos (show nI 3 = (3 : Int32) from rfl), K2 hcd]
        rcases org_any (nI b) with ⟨i, hi, e, e1, e2⟩ | ⟨e1, e2⟩
        · rw [e2]; rfl
        · rw [e2]; rfl
  · -- 4
    by_cases c0 : c = 0
    · subst c0
      by_cases hi : b < bk.2.1.length
      · have qc := those_c (gOk.v bG) bR cg cr (cnK P bk.1 bk.2.2.1 bk.2.2.2.1 bk.2.2.2.2) (msk (cnK P bk.1 bk.2.2.1 bk.2.2.2.1 bk.2.2.2.2) bk.1.length) (msk_bi (by omega)) d (by omega)
        have qb : bi (msk (fun k => decide (qS (cnK P bk.1 bk.2.2.1 bk.2.2.2.1 bk.2.2.2.2) bk.1 bk.2.1 k = d)) bk.2.1.length) b = decide (qS (cnK P bk.1 bk.2.2.1 bk.2.2.2.1 bk.2.2.2.2) bk.1 bk.2.1 b = d) := by
          rw [bi_msk _ (by omega) (by omega), decide_eq_true hi, Bool.true_and]
        have q1 : mX0_canBe_b28 bo po ro pa go ga ra v (nI b) (nI d) (decide (0 = 0)) = if b2i (decide (qS (cnK P bk.1 bk.2.2.1 bk.2.2.2.1 bk.2.2.2.2) bk.1 bk.2.1 b = d)) = (1 : Int32) then some (true, bo, ro, ra) else some (false, bo, ro, ra) := by
          rw [mX0_canBe_b28, ha, if_neg (show ¬ nI 4 = (1 : Int32) by decide), if_neg (show ¬ nI 4 = (2 : Int32) by decide), if_neg (show ¬ nI 4 = (3 : Int32) by decide), if_pos (show nI 4 = (4 : Int32) from rfl), show decide (0 = 0) = true from rfl, if_pos rfl, has_ok cr b (by omega), decide_eq_true hi, Option.bind_some, if_pos rfl, countingNow_ok wP bG cP cg cb hday, Option.bind_some, qc, Option.bind_some, mbit, qb, Option.bind_some]
        have hq3 : qS (cnK P bk.1 bk.2.2.1 bk.2.2.2.1 bk.2.2.2.2) bk.1 bk.2.1 b < 3 := stS_lt _ _ _ _ _ _
        have q2 : mX4_judged_b14 t w fp (nI 4) (nI b) (nI 0) (nI d) (decide (0 = 0) && decide (d = 0)) = if nI (qS (cnK P bk.1 bk.2.2.1 bk.2.2.2.1 bk.2.2.2.2) bk.1 bk.2.1 b) = nI d then some (true, w) else some (false, w) := by
          rw [mX4_judged_b14, if_neg (show ¬ nI 4 = (1 : Int32) by decide), if_neg (show ¬ nI 4 = (2 : Int32) by decide), if_neg (show ¬ nI 4 = (3 : Int32) by decide), if_pos (show nI 4 = (4 : Int32) from rfl), if_pos (show nI 0 = (0 : Int32) from rfl), L41, rd_ok rfl (by decide) (by decide), z41, if_neg (nI_ge hi (by omega)), routeState_r wP bG bR rP rN hday hi, Option.bind_some]
        by_cases q : qS (cnK P bk.1 bk.2.2.1 bk.2.2.2.1 bk.2.2.2.2) bk.1 bk.2.1 b = d
        · refine YES ?_ ?_
          · rw [q1, decide_eq_true q, if_pos (by decide)]
          · rw [q2, if_pos (by rw [q])]
        · refine NO ?_ ?_
          · rw [q1, decide_eq_false q, if_neg (by decide)]
          · rw [q2, if_neg (fun z => q ((nI_eq (by omega) (by omega)).mp z))]
      · refine NO ?_ ?_
        · rw [mX0_canBe_b28, ha, if_neg (show ¬ nI 4 = (1 : Int32) by decide), if_neg (show ¬ nI 4 = (2 : Int32) by decide), if_neg (show ¬ nI 4 = (3 : Int32) by decide), if_pos (show nI 4 = (4 : Int32) from rfl), show decide (0 = 0) = true from rfl, if_pos rfl, has_ok cr b (by omega), decide_eq_false hi]
          rfl
        · rw [mX4_judged_b14, if_neg (show ¬ nI 4 = (1 : Int32) by decide), if_neg (show ¬ nI 4 = (2 : Int32) by decide), if_neg (show ¬ nI 4 = (3 : Int32) by decide), if_pos (show nI 4 = (4 : Int32) from rfl), if_pos (show nI 0 = (0 : Int32) from rfl), L41, rd_ok rfl (by decide) (by decide), z41, if_pos (nI_le (by omega) (by omega))]
    · refine NO ?_ ?_
      · rw [mX0_canBe_b28, ha, if_neg (show ¬ nI 4 = (1 : Int32) by decide), if_neg (show ¬ nI 4 = (2 : Int32) by decide), if_neg (show ¬ nI 4 = (3 : Int32) by decide), if_pos (show nI 4 = (4 : Int32) from rfl), decide_eq_false c0, if_neg Bool.false_ne_true]
      · rw [mX4_judged_b14, if_neg (show ¬ nI 4 = (1 : Int32) by decide), if_neg (show ¬ nI 4 = (2 : Int32) by decide), if_neg (show ¬ nI 4 = (3 : Int32) by decide), if_pos (show nI 4 = (4 : Int32) from rfl), if_neg (show ¬ nI c = (0 : Int32) from n0 c0 (by omega))]
  · -- 5
    rcases law_any (nI b) with ⟨l, hl, e, e1, e2⟩ | ⟨e1, e2⟩
    · by_cases hp : 10 * c + d < 32
      · have p1 : mX3_isPlace (nI (10 * c + d)) = some true := by
          rcases place_any (nI (10 * c + d)) with ⟨i, _, _, e3, _⟩ | ⟨_, e4⟩
          · exact e3
          · rw [show mX4_in (nI (10 * c + d)).toInt64 (0 : Int64) (31 : Int64) = some (decide ((0 : Int32) ≤ nI (10 * c + d) ∧ nI (10 * c + d) ≤ 31)) from in_i _ 0 31, decide_eq_true ⟨nI_le (Nat.zero_le _) (by omega), nI_le (a := 10 * c + d) (b := 31) (by omega) (by decide)⟩] at e4
            exact absurd (Option.some.inj e4) (by decide)
        have q1 : mX0_canBe_b28 bo po ro pa go ga ra v (nI b) (nI d) (decide (c = 0)) = if enc (goS (cnK P bk.1 bk.2.2.1 bk.2.2.2.1 bk.2.2.2.2) bk.1 bk.2.1 l (10 * c + d)) = (-9 : Int32) then some (true, bo, ro, ra) else some (false, bo, ro, ra) := by
          rw [mX0_canBe_b28, ha, if_neg (show ¬ nI 5 = (1 : Int32) by decide), if_neg (show ¬ nI 5 = (2 : Int32) by decide), if_neg (show ¬ nI 5 = (3 : Int32) by decide), if_neg (show ¬ nI 5 = (4 : Int32) by decide), if_pos (show nI 5 = (5 : Int32) from rfl), e1, Option.bind_some, if_pos rfl, hp2, p1, Option.bind_some, if_pos rfl, e, routeTo_ok wP bG bR cP cg cr cb hday hl hp, Option.bind_some]
        have q2 : mX4_judged_b14 t w fp (nI 5) (nI b) (nI c) (nI d) (decide (c = 0) && decide (d = 0)) = if enc (goS (cnK P bk.1 bk.2.2.1 bk.2.2.2.1 bk.2.2.2.2) bk.1 bk.2.1 l (10 * c + d)) = (-9 : Int32) then some (true, w) else some (false, w) := by
          rw [mX4_judged_b14, if_neg (show ¬ nI 5 = (1 : Int32) by decide), if_neg (show ¬ nI 5 = (2 : Int32) by decide), if_neg (show ¬ nI 5 = (3 : Int32) by decide), if_neg (show ¬ nI 5 = (4 : Int32) by decide), if_pos (show nI 5 = (5 : Int32) from rfl), e2, Option.bind_some, if_pos rfl, L10, pk_mul, nI_add, if_neg (show ¬ (32 : Int32) ≤ nI (10 * c + d) by rw [L32]; exact nI_ge hp (by decide)), e, goesOf_r wP bG bR rP rN hday hp hl, Option.bind_some]
        by_cases q : enc (goS (cnK P bk.1 bk.2.2.1 bk.2.2.2.1 bk.2.2.2.2) bk.1 bk.2.1 l (10 * c + d)) = (-9 : Int32)
        · exact YES (by rw [q1, if_pos q]) (by rw [q2, if_pos q])
        · exact NO (by rw [q1, if_neg q]) (by rw [q2, if_neg q])
      · have p1 : mX3_isPlace (nI (10 * c + d)) = some false := by
          rcases place_any (nI (10 * c + d)) with ⟨i, h1, h2, e3, _⟩ | ⟨e3, _⟩
          · exact absurd ((nI_eq (by omega) (by omega)).mp h2) (by omega)
          · exact e3
        refine NO ?_ ?_
        · rw [mX0_canBe_b28, ha, if_neg (show ¬ nI 5 = (1 : Int32) by decide), if_neg (show ¬ nI 5 = (2 : Int32) by decide), if_neg (show ¬ nI 5 = (3 : Int32) by decide), if_neg (show ¬ nI 5 = (4 : Int32) by decide), if_pos (show nI 5 = (5 : Int32) from rfl), e1, Option.bind_some, if_pos rfl, hp2, p1]
          rfl
        · rw [mX4_judged_b14, if_neg (show ¬ nI 5 = (1 : Int32) by decide), if_neg (show ¬ nI 5 = (2 : Int32) by decide), if_neg (show ¬ nI 5 = (3 : Int32) by decide), if_neg (show ¬ nI 5 = (4 : Int32) by decide), if_pos (show nI 5 = (5 : Int32) from rfl), e2, Option.bind_some, if_pos rfl, L10, pk_mul, nI_add, if_pos (show (32 : Int32) ≤ nI (10 * c + d) by rw [L32]; exact nI_le (by omega) (by omega))]
    · refine NO ?_ ?_
      · rw [mX0_canBe_b28, ha, if_neg (show ¬ nI 5 = (1 : Int32) by decide), if_neg (show ¬ nI 5 = (2 : Int32) by decide), if_neg (show ¬ nI 5 = (3 : Int32) by decide), if_neg (show ¬ nI 5 = (4 : Int32) by decide), if_pos (show nI 5 = (5 : Int32) from rfl), e1]
        rfl
      · rw [mX4_judged_b14, if_neg (show ¬ nI 5 = (1 : Int32) by decide), if_neg (show ¬ nI 5 = (2 : Int32) by decide), if_neg (show ¬ nI 5 = (3 : Int32) by decide), if_neg (show ¬ nI 5 = (4 : Int32) by decide), if_pos (show nI 5 = (5 : Int32) from rfl), e2]
        rfl
  · -- 6
    by_cases c0 : c = 0
    · subst c0
      by_cases hi : b < P.length
      · have q1 : mX0_canBe_b28 bo po ro pa go ga ra v (nI b) (nI d) (decide (0 = 0)) = if b2i (stB P bk.2.2.1 bk.2.2.2.2 b) = nI d then some (true, bo, ro, ra) else some (false, bo, ro, ra) := by
          rw [mX0_canBe_b28, ha, if_neg (show ¬ nI 6 = (1 : Int32) by decide), if_neg (show ¬ nI 6 = (2 : Int32) by decide), if_neg (show ¬ nI 6 = (3 : Int32) by decide), if_neg (show ¬ nI 6 = (4 : Int32) by decide), if_neg (show ¬ nI 6 = (5 : Int32) by decide), if_pos (show nI 6 = (6 : Int32) from rfl), show decide (0 = 0) = true from rfl, if_pos rfl, has_ok cP b (by omega), decide_eq_true hi, Option.bind_some, if_pos rfl, standing_ok wP cP _ (show bo.2.2 = nI bk.2.2.2.2 by rw [cb]) hday, Option.bind_some, mbit, bi_msk _ (by omega) (by omega), decide_eq_true hi, Bool.true_and, Option.bind_some, show bo.1 = bk.2.2.1 by rw [cb]]
        have q0 : mX4_isPaper t (nI b) = some true := by
          rw [isPaper_r ht]
          rcases idx_any (nI b) (n := P.length) (by omega) with ⟨i, _, _, e2⟩ | ⟨hne, _⟩
          · exact e2
          · exact absurd rfl (hne b hi)
        have q2 : mX4_judged_b14 t w fp (nI 6) (nI b) (nI 0) (nI d) (decide (0 = 0) && decide (d = 0)) = if (2 : Int32) ≤ nI d then some (false, w) else if nI d = (1 : Int32) then mX4_judged_b282 t w fp true (stB P bk.2.2.1 bk.2.2.2.2 b) else mX4_judged_b282 t w fp false (stB P bk.2.2.1 bk.2.2.2.2 b) := by
          rw [mX4_judged_b14, if_neg (show ¬ nI 6 = (1 : Int32) by decide), if_neg (show ¬ nI 6 = (2 : Int32) by decide), if_neg (show ¬ nI 6 = (3 : Int32) by decide), if_neg (show ¬ nI 6 = (4 : Int32) by decide), if_neg (show ¬ nI 6 = (5 : Int32) by decide), if_pos (show nI 6 = (6 : Int32) from rfl), if_pos (show nI 0 = (0 : Int32) from rfl), q0, Option.bind_some, if_pos rfl, stands_r wP rP rN hday hi, Option.bind_some]
        exact fin q1 q2 (fun _ _ => rfl)
      · refine NO ?_ ?_
        · rw [mX0_canBe_b28, ha, if_neg (show ¬ nI 6 = (1 : Int32) by decide), if_neg (show ¬ nI 6 = (2 : Int32) by decide), if_neg (show ¬ nI 6 = (3 : Int32) by decide), if_neg (show ¬ nI 6 = (4 : Int32) by decide), if_neg (show ¬ nI 6 = (5 : Int32) by decide), if_pos (show nI 6 = (6 : Int32) from rfl), show decide (0 = 0) = true from rfl, if_pos rfl, has_ok cP b (by omega), decide_eq_false hi]
          rfl
        · rw [mX4_judged_b14, if_neg (show ¬ nI 6 = (1 : Int32) by decide), if_neg (show ¬ nI 6 = (2 : Int32) by decide), if_neg (show ¬ nI 6 = (3 : Int32) by decide), if_neg (show ¬ nI 6 = (4 : Int32) by decide), if_neg (show ¬ nI 6 = (5 : Int32) by decide), if_pos (show nI 6 = (6 : Int32) from rfl), if_pos (show nI 0 = (0 : Int32) from rfl), isPaper_r ht]
          rcases idx_any (nI b) (n := P.length) (by omega) with ⟨i, h1, h2, _⟩ | ⟨_, e2⟩
          · exact absurd ((nI_eq (by omega) (by omega)).mp h2) (by omega)
          · rw [e2]
            rfl
    · refine NO ?_ ?_
      · rw [mX0_canBe_b28, ha, if_neg (show ¬ nI 6 = (1 : Int32) by decide), if_neg (show ¬ nI 6 = (2 : Int32) by decide), if_neg (show ¬ nI 6 = (3 : Int32) by decide), if_neg (show ¬ nI 6 = (4 : Int32) by decide), if_neg (show ¬ nI 6 = (5 : Int32) by decide), if_pos (show nI 6 = (6 : Int32) from rfl), decide_eq_false c0, if_neg Bool.false_ne_true]
      · rw [mX4_judged_b14, if_neg (show ¬ nI 6 = (1 : Int32) by decide), if_neg (show ¬ nI 6 = (2 : Int32) by decide), if_neg (show ¬ nI 6 = (3 : Int32) by decide), if_neg (show ¬ nI 6 = (4 : Int32) by decide), if_neg (show ¬ nI 6 = (5 : Int32) by decide), if_pos (show nI 6 = (6 : Int32) from rfl), if_neg (show ¬ nI c = (0 : Int32) from n0 c0 (by omega))]
  · -- 7
    by_cases c0 : c = 0
    · subst c0
      by_cases hi : b < bk.1.length
      · have q1 : mX0_canBe_b28 bo po ro pa go ga ra v (nI b) (nI d) (decide (0 = 0)) = if b2i ((cnK P bk.1 bk.2.2.1 bk.2.2.2.1 bk.2.2.2.2) b) = nI d then some (true, bo, ro, ra) else some (false, bo, ro, ra) := by
          rw [mX0_canBe_b28, ha, if_neg (show ¬ nI 7 = (1 : Int32) by decide), if_neg (show ¬ nI 7 = (2 : Int32) by decide), if_neg (show ¬ nI 7 = (3 : Int32) by decide), if_neg (show ¬ nI 7 = (4 : Int32) by decide), if_neg (show ¬ nI 7 = (5 : Int32) by decide), if_neg (show ¬ nI 7 = (6 : Int32) by decide), if_pos (show nI 7 = (7 : Int32) from rfl), show decide (0 = 0) = true from rfl, if_pos rfl, has_ok cg b (by omega), decide_eq_true hi, Option.bind_some, if_pos rfl, countingNow_ok wP bG cP cg cb hday, Option.bind_some, mbit, bi_msk _ (by omega) (by omega), decide_eq_true hi, Bool.true_and, Option.bind_some]
        have q2 : mX4_judged_b14 t w fp (nI 7) (nI b) (nI 0) (nI d) (decide (0 = 0) && decide (d = 0)) = if (2 : Int32) ≤ nI d then some (false, w) else if nI d = (1 : Int32) then mX4_judged_b331 t w fp true ((cnK P bk.1 bk.2.2.1 bk.2.2.2.1 bk.2.2.2.2) b) else mX4_judged_b331 t w fp false ((cnK P bk.1 bk.2.2.1 bk.2.2.2.1 bk.2.2.2.2) b) := by
          rw [mX4_judged_b14, if_neg (show ¬ nI 7 = (1 : Int32) by decide), if_neg (show ¬ nI 7 = (2 : Int32) by decide), if_neg (show ¬ nI 7 = (3 : Int32) by decide), if_neg (show ¬ nI 7 = (4 : Int32) by decide), if_neg (show ¬ nI 7 = (5 : Int32) by decide), if_neg (show ¬ nI 7 = (6 : Int32) by decide), if_pos (show nI 7 = (7 : Int32) from rfl), if_pos (show nI 0 = (0 : Int32) from rfl), rd_ok (show (0 : Int32) = nI 0 from rfl) (by decide) (by decide), z0, if_neg (nI_ge hi (by omega)), counts_r wP bG rP rN hday hi, Option.bind_some]
        exact fin q1 q2 (fun _ _ => rfl)
      · refine NO ?_ ?_
        · rw [mX0_canBe_b28, ha, if_neg (show ¬ nI 7 = (1 : Int32) by decide), if_neg (show ¬ nI 7 = (2 : Int32) by decide), if_neg (show ¬ nI 7 = (3 : Int32) by decide), if_neg (show ¬ nI 7 = (4 : Int32) by decide), if_neg (show ¬ nI 7 = (5 : Int32) by decide), if_neg (show ¬ nI 7 = (6 : Int32) by decide), if_pos (show nI 7 = (7 : Int32) from rfl), show decide (0 = 0) = true from rfl, if_pos rfl, has_ok cg b (by omega), decide_eq_false hi]
          rfl
        · rw [mX4_judged_b14, if_neg (show ¬ nI 7 = (1 : Int32) by decide), if_neg (show ¬ nI 7 = (2 : Int32) by decide), if_neg (show ¬ nI 7 = (3 : Int32) by decide), if_neg (show ¬ nI 7 = (4 : Int32) by decide), if_neg (show ¬ nI 7 = (5 : Int32) by decide), if_neg (show ¬ nI 7 = (6 : Int32) by decide), if_pos (show nI 7 = (7 : Int32) from rfl), if_pos (show nI 0 = (0 : Int32) from rfl), rd_ok (show (0 : Int32) = nI 0 from rfl) (by decide) (by decide), z0, if_pos (nI_le (by omega) (by omega))]
    · refine NO ?_ ?_
      · rw [mX0_canBe_b28, ha, if_neg (show ¬ nI 7 = (1 : Int32) by decide), if_neg (show ¬ nI 7 = (2 : Int32) by decide), if_neg (show ¬ nI 7 = (3 : Int32) by decide), if_neg (show ¬ nI 7 = (4 : Int32) by decide), if_neg (show ¬ nI 7 = (5 : Int32) by decide), if_neg (show ¬ nI 7 = (6 : Int32) by decide), if_pos (show nI 7 = (7 : Int32) from rfl), decide_eq_false c0, if_neg Bool.false_ne_true]
      · rw [mX4_judged_b14, if_neg (show ¬ nI 7 = (1 : Int32) by decide), if_neg (show ¬ nI 7 = (2 : Int32) by decide), if_neg (show ¬ nI 7 = (3 : Int32) by decide), if_neg (show ¬ nI 7 = (4 : Int32) by decide), if_neg (show ¬ nI 7 = (5 : Int32) by decide), if_neg (show ¬ nI 7 = (6 : Int32) by decide), if_pos (show nI 7 = (7 : Int32) from rfl), if_neg (show ¬ nI c = (0 : Int32) from n0 c0 (by omega))]
  · -- 8
    by_cases hcd : c = 0 ∧ d = 0
    · obtain ⟨rfl, rfl⟩ := hcd
      by_cases hi : b < bk.2.1.length
      · obtain ⟨o1, a1, ec, rc⟩ := cr.close hi
        obtain ⟨f', ef, hf⟩ := takeRoute_r rN hi
        refine ⟨true, bo, o1, a1, f', (bk.1, bk.2.1.eraseIdx b, bk.2.2), ?_, ?_, ⟨bG1, by rw [er_len hi]; omega, bG, fun k hk => ?_, bD⟩, ⟨cb, cg, rc⟩, hf⟩
        · rw [mX0_canBe_b28, ha, if_neg (show ¬ nI 8 = (1 : Int32) by decide), if_neg (show ¬ nI 8 = (2 : Int32) by decide), if_neg (show ¬ nI 8 = (3 : Int32) by decide), if_neg (show ¬ nI 8 = (4 : Int32) by decide), if_neg (show ¬ nI 8 = (5 : Int32) by decide), if_neg (show ¬ nI 8 = (6 : Int32) by decide), if_neg (show ¬ nI 8 = (7 : Int32) by decide), if_pos (show nI 8 = (8 : Int32) from rfl), show decide (0 = 0) = true from rfl, if_pos rfl, if_pos (show nI 0 = (0 : Int32) from rfl)]
          unfold mX0_canWithdraw
          rw [has_ok cr b (by omega), decide_eq_true hi, Option.bind_some, if_pos rfl, ec, Option.bind_some, Option.bind_some, if_pos rfl]
        · rw [mX4_judged_b14, if_neg (show ¬ nI 8 = (1 : Int32) by decide), if_neg (show ¬ nI 8 = (2 : Int32) by decide), if_neg (show ¬ nI 8 = (3 : Int32) by decide), if_neg (show ¬ nI 8 = (4 : Int32) by decide), if_neg (show ¬ nI 8 = (5 : Int32) by decide), if_neg (show ¬ nI 8 = (6 : Int32) by decide), if_neg (show ¬ nI 8 = (7 : Int32) by decide), if_pos (show nI 8 = (8 : Int32) from rfl), L41, rd_ok rfl (by decide) (by decide), z41, if_neg (nI_ge hi (by omega)), if_pos (show (decide (0 = 0) && decide (0 = 0)) = true from rfl), ef, Option.bind_some]
        · rw [er_len hi] at hk
          unfold rA
          rw [gd_er]
          by_cases z : k < b
          · rw [if_pos z]; exact bR k (by omega)
          · rw [if_neg z]; exact bR (k + 1) (by omega)
      · refine NO ?_ ?_
        · rw [mX0_canBe_b28, ha, if_neg (show ¬ nI 8 = (1 : Int32) by decide), if_neg (show ¬ nI 8 = (2 : Int32) by decide), if_neg (show ¬ nI 8 = (3 : Int32) by decide), if_neg (show ¬ nI 8 = (4 : Int32) by decide), if_neg (show ¬ nI 8 = (5 : Int32) by decide), if_neg (show ¬ nI 8 = (6 : Int32) by decide), if_neg (show ¬ nI 8 = (7 : Int32) by decide), if_pos (show nI 8 = (8 : Int32) from rfl), show decide (0 = 0) = true from rfl, if_pos rfl, if_pos (show nI 0 = (0 : Int32) from rfl)]
          unfold mX0_canWithdraw
          rw [has_ok cr b (by omega), decide_eq_false hi]
          rfl
        · rw [mX4_judged_b14, if_neg (show ¬ nI 8 = (1 : Int32) by decide), if_neg (show ¬ nI 8 = (2 : Int32) by decide), if_neg (show ¬ nI 8 = (3 : Int32) by decide), if_neg (show ¬ nI 8 = (4 : Int32) by decide), if_neg (show ¬ nI 8 = (5 : Int32) by decide), if_neg (show ¬ nI 8 = (6 : Int32) by decide), if_neg (show ¬ nI 8 = (7 : Int32) by decide), if_pos (show nI 8 = (8 : Int32) from rfl), L41, rd_ok rfl (by decide) (by decide), z41, if_pos (nI_le (by omega) (by omega))]
    · refine NO ?_ ?_
      · rw [mX0_canBe_b28, ha, if_neg (show ¬ nI 8 = (1 : Int32) by decide), if_neg (show ¬ nI 8 = (2 : Int32) by decide), if_neg (show ¬ nI 8 = (3 : Int32) by decide), if_neg (show ¬ nI 8 = (4 : Int32) by decide), if_neg (show ¬ nI 8 = (5 : Int32) by decide), if_neg (show ¬ nI 8 = (6 : Int32) by decide), if_neg (show ¬ nI 8 = (7 : Int32) by decide), if_pos (show nI 8 = (8 : Int32) from rfl), K1 _ _ hcd]
      · rw [mX4_judged_b14, if_neg (show ¬ nI 8 = (1 : Int32) by decide), if_neg (show ¬ nI 8 = (2 : Int32) by decide), if_neg (show ¬ nI 8 = (3 : Int32) by decide), if_neg (show ¬ nI 8 = (4 : Int32) by decide), if_neg (show ¬ nI 8 = (5 : Int32) by decide), if_neg (show ¬ nI 8 = (6 : Int32) by decide), if_neg (show ¬ nI 8 = (7 : Int32) by decide), if_pos (show nI 8 = (8 : Int32) from rfl), K2 hcd]
        rw [L41, rd_ok rfl (by decide) (by decide)]
        split
        · rfl
        · rfl
  · -- 9
    refine NO ?_ ?_
    · rw [mX0_canBe_b28, ha, if_neg (show ¬ nI 9 = (1 : Int32) by decide), if_neg (show ¬ nI 9 = (2 : Int32) by decide), if_neg (show ¬ nI 9 = (3 : Int32) by decide), if_neg (show ¬ nI 9 = (4 : Int32) by decide), if_neg (show ¬ nI 9 = (5 : Int32) by decide), if_neg (show ¬ nI 9 = (6 : Int32) by decide), if_neg (show ¬ nI 9 = (7 : Int32) by decide), if_neg (show ¬ nI 9 = (8 : Int32) by decide)]
    · rw [mX4_judged_b14, if_neg (show ¬ nI 9 = (1 : Int32) by decide), if_neg (show ¬ nI 9 = (2 : Int32) by decide), if_neg (show ¬ nI 9 = (3 : Int32) by decide), if_neg (show ¬ nI 9 = (4 : Int32) by decide), if_neg (show ¬ nI 9 = (5 : Int32) by decide), if_neg (show ¬ nI 9 = (6 : Int32) by decide), if_neg (show ¬ nI 9 = (7 : Int32) by decide), if_neg (show ¬ nI 9 = (8 : Int32) by decide)]
