/-! both new objects, tied to the plain state that they begin with -/
theorem rel0 {o1 : I3} {a1 : Ar} (h : RowsIs 6 5 (0 + 1) (fun j c => if j = 0 then cel6 (nI 0) (nI 0) (cov 0 0) (-9) (-9) 0 c else 0) o1 a1) :
    Rel (0, 0) o1 a1 (0, 0, 0) (nI 8, nI 6, 0) (8 * 6, fun _ => 0) (nI 7, nI 4, 0) (7 * 4, fun _ => 0) (0, 0, 0) (nI 8, nI 6, 0) (8 * 6, fun _ => 0) (nI 7, nI 4, 0) (7 * 4, fun _ => 0) (0, 0, 0) (nI 8, nI 6, 0) (8 * 6, fun _ => 0) (nI 7, nI 4, 0) (7 * 4, fun _ => 0) (0, 0, 0) (nI 8, nI 6, 0) (8 * 6, fun _ => 0) (nI 7, nI 4, 0) (7 * 4, fun _ => 0) (nI 14, nI 8, 0) (14 * 8, fun _ => 0) (nI 6, nI 5, 0) (6 * 5, fun _ => 0) (0, 0, 0) (fun _ => 0) (nI 6, nI 5, 0) (6 * 5, fun _ => 0) (nI 8, nI 6, 0) (8 * 6, fun _ => 0) (nI 6, nI 4, 0) (6 * 4, fun _ => 0) (fun _ => 0) (0, 1, 0, 0, 0, 0, 0, 0, 0, 0) (fun _ => 0) (fun _ => 0) (fun _ => 0) (fun _ => 0) (fun _ => 0) (fun _ => 0) (fun _ => 0) (fun _ => 0) (fun _ => 0) (fun _ => 0) (fun _ => 0) := by
  have z0 : ∀ (lim w : Nat) (cell : Nat → Nat → Int32), lim ≤ 20 → 0 < w → w ≤ 20 → RowsIs lim w 0 cell (nI lim, nI w, (0 : Int32)) (lim * w, fun _ => 0) := fun lim w cell h1 h2 h3 => ⟨rfl, Nat.zero_le _, h1, h2, h3, rfl, fun i hi => absurd hi (Nat.not_lt_zero i)⟩
  have s0 : ∀ (lim w : Nat), lim ≤ 20 → 0 < w → w ≤ 20 → RowsSh lim w (nI lim, nI w, (0 : Int32)) (lim * w, fun _ => 0) := fun lim w h1 h2 h3 => ⟨rfl, rfl, h1, h2, h3, rfl⟩
  have k0 : bkOk 1 b0 := ⟨Nat.zero_le _, Nat.zero_le _, fun k hk => absurd hk (Nat.not_lt_zero k), fun k hk => absurd hk (Nat.not_lt_zero k), Nat.zero_le _⟩
  have p0 : PapC [(0, 0, 0, 0)] o1 a1 := h.cong (fun i hi c _ => by
    have : i = 0 := by omega
    subst this
    rfl)
  have bs : BooksSh (nI 8, nI 6, 0) (8 * 6, fun _ => 0) (nI 7, nI 4, 0) (7 * 4, fun _ => 0) := ⟨s0 8 6 (by decide) (by decide) (by decide), s0 7 4 (by decide) (by decide) (by decide)⟩
  have r0 : RowIs b0 (fun _ => 0) := ⟨Nat.zero_le _, Nat.zero_le _, rfl, fun i hi => absurd hi (Nat.not_lt_zero i), rfl, fun i hi => absurd hi (Nat.not_lt_zero i), rfl, rfl, rfl⟩
  refine ⟨[(0, 0, 0, 0)], b0, [], none, none, [], fun _ => 0, 0, 0, ?_, ?_, ?_⟩
  · exact ⟨⟨by decide, by decide, rfl, fun i h1 h2 => absurd (show i < 1 from h2) (by omega)⟩, k0, Nat.zero_le _, fun j hj => absurd hj (Nat.not_lt_zero j), fun b hb => (by cases hb), fun b hb => (by cases hb), Nat.zero_le _, fun j hj => absurd hj (Nat.not_lt_zero j), Nat.zero_le _, fun j hj => absurd hj (Nat.not_lt_zero j), by decide⟩
  · exact ⟨p0, ⟨rfl, z0 8 6 _ (by decide) (by decide) (by decide), z0 7 4 _ (by decide) (by decide) (by decide)⟩, bs, ⟨bs, fun b hb => (by cases hb)⟩, ⟨bs, fun b hb => (by cases hb)⟩, ⟨fun _ _ => 0, z0 14 8 _ (by decide) (by decide) (by decide), fun j hj => absurd hj (Nat.not_lt_zero j)⟩, z0 6 5 _ (by decide) (by decide) (by decide), ⟨rfl, fun j hj => absurd hj (Nat.not_lt_zero j)⟩, ⟨s0 6 5 (by decide) (by decide) (by decide), s0 8 6 (by decide) (by decide) (by decide), s0 6 4 (by decide) (by decide) (by decide)⟩, rfl⟩
  · exact ⟨⟨rfl, rfl, rfl, rfl, rfl, rfl⟩, fun j hj => absurd hj (Nat.not_lt_zero j), fun i hi => by
      have : i = 0 := by have : i < 1 := hi; omega
      subst this
      exact ⟨rfl, rfl, rfl, rfl⟩, r0, fun j hj => absurd hj (Nat.not_lt_zero j), ⟨rfl, rfl, fun b hb => (by cases hb), fun b hb => (by cases hb)⟩, fun i hi => absurd hi (Nat.not_lt_zero i)⟩
/-! the machine's words at the law's entry -/
theorem arr_at {ty : FieldType} {args : Array Value} {s : State} (h : (Cond.arrayClass ty).before args s = true) : ∃ cA : ClassId, ArrOfT s cA ty ∧ s.vm.findClass ("[" ++ ty.toString) = some cA := by
  obtain ⟨cA, kA, comp, h1, h2, h3⟩ := Cond.arrayClass_spec h
  exact ⟨cA, fun n z => ⟨fun k h => (by cases h), kA, h2, comp, h3⟩, h1⟩
theorem ev_at {args : Array Value} {s : State} (hts : ∀ w ∈ lw_tbl, w.before args s = true) : ∃ (dC : Nat → ClassId) (dI : Nat → Nat → Nat) (cI cC cZ : ClassId), EV (dC, dI) cI cC cZ s := by
  have hU : ∀ w ∈ wsL_law, w.before args s = true := fun w h => hts w (wsL_law_in w h)
  obtain ⟨c0, i0, n0⟩ := u_known (C := RX0) (T := TX0) (N := 6) (n := 6) hU inlX0 (hU _ u_1_18)
  obtain ⟨c1, i1, n1⟩ := u_known (C := RX1) (T := TX1) (N := 4) (n := 4) hU inlX1 (hU _ u_1_14)
  obtain ⟨c2, i2, n2⟩ := u_known (C := RX2) (T := TX2) (N := 7) (n := 7) hU inlX2 (hU _ u_2_3)
  obtain ⟨c3, i3, n3⟩ := u_known (C := RX3) (T := TX3) (N := 11) (n := 11) hU inlX3 (hU _ u_1_1)
  obtain ⟨c4, i4, n4⟩ := u_known (C := RX4) (T := TX4) (N := 21) (n := 21) hU inlX4 (hU _ u_1_4)
  obtain ⟨cI, a1, a2⟩ := arr_at (hU _ u_2_6)
  obtain ⟨cC, a3, a4⟩ := arr_at (hU _ u_3_7)
  obtain ⟨cZ, a5, a6⟩ := arr_at (hU _ u_4_19)
  refine ⟨fun k => if k = 0 then c0 else if k = 1 then c1 else if k = 2 then c2 else if k = 3 then c3 else c4, fun k => if k = 0 then i0 else if k = 1 then i1 else if k = 2 then i2 else if k = 3 then i3 else i4, cI, cC, cZ, ⟨?_, ?_⟩, nws_at hts⟩
  · intro k q hq
    match k, hq with
    | 0, hq => cases hq; exact n0
    | 1, hq => cases hq; exact n1
    | 2, hq => cases hq; exact n2
    | 3, hq => cases hq; exact n3
    | 4, hq => cases hq; exact n4
    | k + 5, hq => exact absurd hq (by simp [vwCl])
  · intro k q hq
    match k, hq with
    | 0, hq => cases hq; exact ⟨a1, a2⟩
    | 1, hq => cases hq; exact ⟨a3, a4⟩
    | 2, hq => cases hq; exact ⟨a5, a6⟩
    | k + 3, hq => exact absurd hq (by simp)
