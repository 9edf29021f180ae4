/-! tried on a copy: a thief's range, a paper revoked; ranges by a seed -/
theorem rok_app {R : List RN} (hR : ∀ k, k < R.length → rOk (rA R k)) {x : RN} (hx : rOk x) : ∀ k, k < (R ++ [x]).length → rOk (rA (R ++ [x]) k) := by
  intro k hk
  rw [List.length_append] at hk
  have hk' : k < R.length + 1 := hk
  unfold rA
  by_cases z : k = R.length
  · subst z; rw [gd_eq]; exact hx
  · rw [gd_lt _ _ _ (by omega)]; exact hR k (by omega)
theorem rg_start {p l : Nat} (hp : p < 32) (hl : l < 6) : rgOk (p - p % (32 / 2 ^ l)) l := by
  refine ⟨hl, by omega, ?_⟩
  rcases (show l = 0 ∨ l = 1 ∨ l = 2 ∨ l = 3 ∨ l = 4 ∨ l = 5 by omega) with rfl | rfl | rfl | rfl | rfl | rfl <;> omega
theorem theft_l {P : List PN} {bk : Bk} (wP : PLok P) (wB : bkOk P.length bk) {po : I3} {pa : Ar} (cP : PapC P po pa) {bo go : I3} {ga : Ar} {ro : I3} {ra : Ar} (cN : BooksIs bk bo go ga ro ra) {fp fn : Nat → Int32} (rP : PapR P fp) (rN : RowIs bk fn) {p o law : Nat} (hp : p < 32) (ho : o < 6) (hlaw : law < 4) : ∀ (m m' l : Nat) (to tg : I3) (tga : Ar) (tr : I3) (tra : Ar) (ft : Nat → Int32), l ≤ 6 → 6 - l < m → 6 - l < m' → BooksSh tg tga tr tra →
    ∃ rx rm, mX3_theft_b29 bo go ga ro ra po pa (nI p) (nI o) (nI law) m (nI l) to tg tga tr tra = some rx ∧ mX4_theft_b34 fn fp (nI p) (nI o) (nI law) m' (nI l) ft = some rm ∧ rx.1 = rm.1 ∧ BooksSh rx.2.2.1 rx.2.2.2.1 rx.2.2.2.2.1 rx.2.2.2.2.2 := by
  obtain ⟨bG1, bR1, bG, bR, bD⟩ := wB
  have hday : bk.2.2.2.2 < 2 ^ 31 := by omega
  intro m
  induction m with
  | zero => intro m' l to tg tga tr tra ft h1 h2; omega
  | succ m ih =>
    intro m' l to tg tga tr tra ft h1 h2 h3 h4
    obtain ⟨m', rfl⟩ : ∃ k, m' = k + 1 := ⟨m' - 1, by omega⟩
    rw [mX3_theft_b29, mX4_theft_b34]
    by_cases hl : l < 6
    · have hz := sz_pos hl
      have hm := Nat.mod_lt p hz.1
      have hx : rOk (p - p % (32 / 2 ^ l), l, o) := ⟨rg_start hp hl, ho⟩
      obtain ⟨y, ey, hy1, hy2, hy3⟩ := bcopy (bo' := to) cN h4
      obtain ⟨o2, a2, e2, r2⟩ := hy3.add (by omega) (p - p % (32 / 2 ^ l), l, o) (show l < 2 ^ 31 by omega)
      obtain ⟨g1, eg, hg⟩ := copy_r fn ft
      obtain ⟨g2, eg2, hg2⟩ := addRoute_r (RowR.cong rN hg) (by omega) (p - p % (32 / 2 ^ l), l, o)
      have hRn := rok_app bR hx
      have q1 : mX0_routeTo y.1 po pa y.2.1 y.2.2.1 o2 a2 (nI p) (nI law) = some (enc (goS (cnK P bk.1 bk.2.2.1 bk.2.2.2.1 bk.2.2.2.2) bk.1 (bk.2.1 ++ [(p - p % (32 / 2 ^ l), l, o)]) law p)) := routeTo_ok wP bG hRn cP hy2 r2 hy1 hday hlaw hp
      have q2 : mX4_goesOf g2 fp (nI p) (nI law) = some (enc (goS (cnK P bk.1 bk.2.2.1 bk.2.2.2.1 bk.2.2.2.2) bk.1 (bk.2.1 ++ [(p - p % (32 / 2 ^ l), l, o)]) law p)) := goesOf_r wP bG hRn rP hg2 hday hp hlaw
      rw [if_neg (show ¬ (5 : Int32) < nI l by rw [L5]; exact nI_nlt (by omega) (by decide)), if_neg (show ¬ (6 : Int32) ≤ nI l by rw [L6]; exact nI_ge hl (by decide))]
      rw [ey, Option.bind_some, left_ok hp hl, Option.bind_some, pk_sub (Nat.mod_le _ _), show mX1_addRange y.2.2.2.1 y.2.2.2.2 (nI (p - p % (32 / 2 ^ l))) (nI l) (nI o) (0 : Int32) (0 : Int32) = some (nI bk.2.1.length, o2, a2) from e2, Option.bind_some]
      dsimp only
      rw [q1, Option.bind_some, eg, Option.bind_some, sz_ok hl, Option.bind_some, rmd_ok (by omega) hz.1 (by omega), pk_sub (Nat.mod_le _ _), show mX4_addRoute g1 (nI (p - p % (32 / 2 ^ l))) (nI l) (nI o) = some g2 from eg2, Option.bind_some, q2, Option.bind_some, L41, rd_ok rfl (by decide) (by decide), hg2.2.2.2.2.1, List.length_append, show bk.2.1.length + [(p - p % (32 / 2 ^ l), l, o)].length = bk.2.1.length + 1 from rfl, nI_pred, nI_1]
      by_cases q : enc (goS (cnK P bk.1 bk.2.2.1 bk.2.2.2.1 bk.2.2.2.2) bk.1 (bk.2.1 ++ [(p - p % (32 / 2 ^ l), l, o)]) law p) = nI bk.2.1.length
      · rw [if_pos q, if_pos q]
        exact ⟨_, _, rfl, rfl, rfl, hy2.sh, r2.sh⟩
      · rw [if_neg q, if_neg q]
        exact ih m' (l + 1) _ _ _ _ _ _ (by omega) (by omega) (by omega) ⟨hy2.sh, r2.sh⟩
    · have : l = 6 := by omega
      subst this
      rw [if_pos (by decide), if_pos (by decide)]
      exact ⟨_, _, rfl, rfl, rfl, h4⟩
theorem RowR.rev {G : List GN} {R : List RN} {rev aside : Int32} {day : Nat} {f : Nat → Int32} (h : RowR G R rev aside day f) (x : Int32) : RowR G R x aside day (upd f 63 x) := by
  obtain ⟨n1, n2, z0, zg, z41, zr, z63, z64, z65⟩ := h
  refine ⟨n1, n2, by rw [pk_un (by decide), z0], fun i hi => ?_, by rw [pk_un (by decide), z41], fun i hi => ?_, pk_us, by rw [pk_un (by decide), z64], by rw [pk_un (by decide), z65]⟩
  · obtain ⟨a1, a2, a3, a4, a5⟩ := zg i hi
    exact ⟨by rw [pk_un (by omega), a1], by rw [pk_un (by omega), a2], by rw [pk_un (by omega), a3], by rw [pk_un (by omega), a4], by rw [pk_un (by omega), a5]⟩
  · obtain ⟨a1, a2, a3⟩ := zr i hi
    exact ⟨by rw [pk_un (by omega), a1], by rw [pk_un (by omega), a2], by rw [pk_un (by omega), a3]⟩
theorem RowR.asd {G : List GN} {R : List RN} {rev aside : Int32} {day : Nat} {f : Nat → Int32} (h : RowR G R rev aside day f) (x : Int32) : RowR G R rev x day (upd f 64 x) := by
  obtain ⟨n1, n2, z0, zg, z41, zr, z63, z64, z65⟩ := h
  refine ⟨n1, n2, by rw [pk_un (by decide), z0], fun i hi => ?_, by rw [pk_un (by decide), z41], fun i hi => ?_, by rw [pk_un (by decide), z63], pk_us, by rw [pk_un (by decide), z65]⟩
  · obtain ⟨a1, a2, a3, a4, a5⟩ := zg i hi
    exact ⟨by rw [pk_un (by omega), a1], by rw [pk_un (by omega), a2], by rw [pk_un (by omega), a3], by rw [pk_un (by omega), a4], by rw [pk_un (by omega), a5]⟩
  · obtain ⟨a1, a2, a3⟩ := zr i hi
    exact ⟨by rw [pk_un (by omega), a1], by rw [pk_un (by omega), a2], by rw [pk_un (by omega), a3]⟩
theorem RowR.dayTo {G : List GN} {R : List RN} {rev aside : Int32} {day : Nat} {f : Nat → Int32} (h : RowR G R rev aside day f) (x : Nat) : RowR G R rev aside x (upd f 65 (nI x)) := by
  obtain ⟨n1, n2, z0, zg, z41, zr, z63, z64, z65⟩ := h
  refine ⟨n1, n2, by rw [pk_un (by decide), z0], fun i hi => ?_, by rw [pk_un (by decide), z41], fun i hi => ?_, by rw [pk_un (by decide), z63], by rw [pk_un (by decide), z64], pk_us⟩
  · obtain ⟨a1, a2, a3, a4, a5⟩ := zg i hi
    exact ⟨by rw [pk_un (by omega), a1], by rw [pk_un (by omega), a2], by rw [pk_un (by omega), a3], by rw [pk_un (by omega), a4], by rw [pk_un (by omega), a5]⟩
  · obtain ⟨a1, a2, a3⟩ := zr i hi
    exact ⟨by rw [pk_un (by omega), a1], by rw [pk_un (by omega), a2], by rw [pk_un (by omega), a3]⟩
/-- the draw: a number of 31 bits -/
theorem draw_ok (z : Int64) : ∃ k : Nat, k < 2 ^ 31 ∧ (((z.toUInt64 >>> ((33 : Int32).toInt64.toUInt64 &&& Int64.toUInt64 63)).toInt64).toInt32) = nI k := by
  have e0 : ((33 : Int32).toInt64.toUInt64 &&& Int64.toUInt64 63) = 33 := by decide
  rw [e0]
  have hz : z.toUInt64.toNat < 2 ^ 64 := z.toUInt64.toNat_lt
  have e1 : (z.toUInt64 >>> 33).toNat = z.toUInt64.toNat / 2 ^ 33 := by
    rw [UInt64.toNat_shiftRight, Nat.shiftRight_eq_div_pow]
    rfl
  refine ⟨z.toUInt64.toNat / 2 ^ 33, by omega, ?_⟩
  apply Int32.toBitVec_inj.mp
  apply BitVec.eq_of_toNat_eq
  show ((z.toUInt64 >>> 33).toBitVec.signExtend 32).toNat = (BitVec.ofNat 32 (z.toUInt64.toNat / 2 ^ 33)).toNat
  rw [BitVec.signExtend_eq_setWidth_of_le _ (by decide), BitVec.toNat_setWidth, BitVec.toNat_ofNat]
  show (z.toUInt64 >>> 33).toNat % 2 ^ 32 = _
  rw [e1]
theorem drawn_l {P : List PN} {bk : Bk} (wP : PLok P) (wB : bkOk P.length bk) {po : I3} {pa : Ar} {bo go : I3} {ga : Ar} (cg : GrC bk.1 go ga) {fp fn : Nat → Int32} (rP : PapR P fp) (rN : RowIs bk fn) {M : Nat} (hM : M < 2 ^ 31) : ∀ (m m' i : Nat) (v : Int32) (x : Int32 × Int64) (t : MO), i ≤ M → M - i < m → M - i < m' → t.2.2.2.2.2.2.2.2.2 = x.2 →
    ∃ rx rm, mX3_drawn_b27 bo po pa go ga (nI M) (msk (cnK P bk.1 bk.2.2.1 bk.2.2.2.1 bk.2.2.2.2) bk.1.length) m v (nI i) x = some rx ∧ mX4_drawn_b19 fn fp (nI M) m' v (nI i) t = some rm ∧ rx.1 = rm.1 ∧ rx.2.1 = x.1 ∧ rm.2 = (t.1, t.2.1, t.2.2.1, t.2.2.2.1, t.2.2.2.2.1, t.2.2.2.2.2.1, t.2.2.2.2.2.2.1, t.2.2.2.2.2.2.2.1, t.2.2.2.2.2.2.2.2.1, rx.2.2) := by
  obtain ⟨bG1, bR1, bG, bR, bD⟩ := wB
  have hday : bk.2.2.2.2 < 2 ^ 31 := by omega
  intro m
  induction m with
  | zero => intro m' i v x t h1 h2; omega
  | succ m ih =>
    intro m' i v x t h1 h2 h3 h4
    obtain ⟨m', rfl⟩ : ∃ k, m' = k + 1 := ⟨m' - 1, by omega⟩
    by_cases hi : i < M
    · obtain ⟨Z, hZ⟩ : ∃ Z, (x.2 * (6364136223846793005 : Int64)) + (1442695040888963407 : Int64) = Z := ⟨_, rfl⟩
      obtain ⟨k, hk, ek⟩ := draw_ok Z
      have f6 : nI k - nI k / (6 : Int32) * (6 : Int32) = nI (k % 6) := pk_rem hk (by decide) (by decide)
      have f6d : nI k / (6 : Int32) = nI (k / 6) := pk_div hk (by decide) (by decide)
      have f192 : nI k / (192 : Int32) = nI (k / 192) := pk_div hk (by decide) (by decide)
      have f32 : nI (k / 6) - nI (k / 6) / (32 : Int32) * (32 : Int32) = nI (k / 6 % 32) := pk_rem (by omega) (by decide) (by decide)
      have fo : nI (k / 192) - nI (k / 192) / (6 : Int32) * (6 : Int32) = nI (k / 192 % 6) := pk_rem (by omega) (by decide) (by decide)
      have hl : k % 6 < 6 := by omega
      have hp : k / 6 % 32 < 32 := by omega
      have ho : k / 192 % 6 < 6 := by omega
      have hz := sz_pos hl
      have A : mX3_drawn_b27 bo po pa go ga (nI M) (msk (cnK P bk.1 bk.2.2.1 bk.2.2.2.1 bk.2.2.2.2) bk.1.length) (m + 1) v (nI i) x = mX3_drawn_b27 bo po pa go ga (nI M) (msk (cnK P bk.1 bk.2.2.1 bk.2.2.2.1 bk.2.2.2.2) bk.1.length) m (v + nI (stS (cnK P bk.1 bk.2.2.1 bk.2.2.2.1 bk.2.2.2.2) bk.1 (k / 6 % 32 - k / 6 % 32 % (32 / 2 ^ (k % 6))) (k % 6) (k / 192 % 6) bk.1.length)) (nI (i + 1)) (x.1, Z) := by
        rw [mX3_drawn_b27, if_neg (nI_ge hi hM), hZ, bnd_eq, ek, bnd_eq, f6, f6d, f192, f32, fo, bnd_eq, left_ok hp hl, Option.bind_some, pk_sub (Nat.mod_le _ _), cov_ok (by omega), Option.bind_some, stateOf_ok (gOk.v bG) cg (rg_start hp hl) ho, Option.bind_some, stS_cong _ _ _ _ (msk_bi (by omega)), nI_1]
      have B : mX4_drawn_b19 fn fp (nI M) (m' + 1) v (nI i) t = mX4_drawn_b19 fn fp (nI M) m' (v + nI (stS (cnK P bk.1 bk.2.2.1 bk.2.2.2.1 bk.2.2.2.2) bk.1 (k / 6 % 32 - k / 6 % 32 % (32 / 2 ^ (k % 6))) (k % 6) (k / 192 % 6) bk.1.length)) (nI (i + 1)) (t.1, t.2.1, t.2.2.1, t.2.2.2.1, t.2.2.2.2.1, t.2.2.2.2.2.1, t.2.2.2.2.2.2.1, t.2.2.2.2.2.2.2.1, t.2.2.2.2.2.2.2.2.1, Z) := by
        rw [mX4_drawn_b19, if_neg (nI_ge hi hM), h4, hZ, bnd_eq, ek, bnd_eq, f6, f6d, f192, f32, fo, bnd_eq, sz_ok hl, Option.bind_some, rmd_ok (by omega) hz.1 (by omega), pk_sub (Nat.mod_le _ _), stateOf_r wP bG rP rN hday (rg_start hp hl) ho, Option.bind_some, nI_1]
      rw [A, B]
      obtain ⟨rx, rm, e1, e2, e3, e4, e5⟩ := ih m' (i + 1) (v + nI (stS (cnK P bk.1 bk.2.2.1 bk.2.2.2.1 bk.2.2.2.2) bk.1 (k / 6 % 32 - k / 6 % 32 % (32 / 2 ^ (k % 6))) (k % 6) (k / 192 % 6) bk.1.length)) (x.1, Z) (t.1, t.2.1, t.2.2.1, t.2.2.2.1, t.2.2.2.2.1, t.2.2.2.2.2.1, t.2.2.2.2.2.2.1, t.2.2.2.2.2.2.2.1, t.2.2.2.2.2.2.2.2.1, Z) (by omega) (by omega) (by omega) rfl
      exact ⟨rx, rm, e1, e2, e3, e4, e5⟩
    · have : i = M := by omega
      subst this
      rw [mX3_drawn_b27, mX4_drawn_b19, if_pos (nI_le (Nat.le_refl _) hM), if_pos (nI_le (Nat.le_refl _) hM)]
      refine ⟨_, _, rfl, rfl, rfl, rfl, ?_⟩
      dsimp only
      rw [← h4]
section L2
variable {s_x : Int32 × Int64} {s_x_papers : Int32 × Int32 × Int32} {s_x_papers_cells : Ar} {s_x_now : Int32 × Int32 × Int32} {s_x_now_grants : Int32 × Int32 × Int32} {s_x_now_grants_cells : Ar} {s_x_now_routes : Int32 × Int32 × Int32} {s_x_now_routes_cells : Ar} {s_x_trial : Int32 × Int32 × Int32} {s_x_trial_grants : Int32 × Int32 × Int32} {s_x_trial_grants_cells : Ar} {s_x_trial_routes : Int32 × Int32 × Int32} {s_x_trial_routes_cells : Ar} {s_x_firstSlot : Int32 × Int32 × Int32} {s_x_firstSlot_grants : Int32 × Int32 × Int32} {s_x_firstSlot_grants_cells : Ar} {s_x_firstSlot_routes : Int32 × Int32 × Int32} {s_x_firstSlot_routes_cells : Ar} {s_x_secondSlot : Int32 × Int32 × Int32} {s_x_secondSlot_grants : Int32 × Int32 × Int32} {s_x_secondSlot_grants_cells : Ar} {s_x_secondSlot_routes : Int32 × Int32 × Int32} {s_x_secondSlot_routes_cells : Ar} {s_x_acts : Int32 × Int32 × Int32} {s_x_acts_cells : Ar} {s_x_seen : Int32 × Int32 × Int32} {s_x_seen_cells : Ar} {s_x_text : Int32 × Int32 × Int32} {s_x_text_letters : Nat → Int32} {s_x_text_papers : Int32 × Int32 × Int32} {s_x_text_papers_cells : Ar} {s_x_text_grants : Int32 × Int32 × Int32} {s_x_text_grants_cells : Ar} {s_x_text_routes : Int32 × Int32 × Int32} {s_x_text_routes_cells : Ar} {s_x_doings : Nat → Int32} {s_m : Int32 × Int32 × Int32 × Int32 × Int32 × Int32 × Int32 × Int32 × Int32 × Int64} {s_m_text : Nat → Int32} {s_m_paper : Nat → Int32} {s_m_now : Nat → Int32} {s_m_trial : Nat → Int32} {s_m_diary : Nat → Int32} {s_m_kept : Nat → Int32} {s_m_isKept : Nat → Int32} {s_m_seenAt : Nat → Int32} {s_m_worth : Nat → Int32} {s_m_readPaper : Nat → Int32} {s_m_read : Nat → Int32}
set_option maxHeartbeats 1000000 in
theorem L_theft (h : Rel s_x s_x_papers s_x_papers_cells s_x_now s_x_now_grants s_x_now_grants_cells s_x_now_routes s_x_now_routes_cells s_x_trial s_x_trial_grants s_x_trial_grants_cells s_x_trial_routes s_x_trial_routes_cells s_x_firstSlot s_x_firstSlot_grants s_x_firstSlot_grants_cells s_x_firstSlot_routes s_x_firstSlot_routes_cells s_x_secondSlot s_x_secondSlot_grants s_x_secondSlot_grants_cells s_x_secondSlot_routes s_x_secondSlot_routes_cells s_x_acts s_x_acts_cells s_x_seen s_x_seen_cells s_x_text s_x_text_letters s_x_text_papers s_x_text_papers_cells s_x_text_grants s_x_text_grants_cells s_x_text_routes s_x_text_routes_cells s_x_doings s_m s_m_text s_m_paper s_m_now s_m_trial s_m_diary s_m_kept s_m_isKept s_m_seenAt s_m_worth s_m_readPaper s_m_read) (v1 : Int32) (v2 : Int32) (v3 : Int32) : ∃ (rx : Int32 × (Int32 × Int32 × Int32) × (Int32 × Int32 × Int32) × Ar × (Int32 × Int32 × Int32) × Ar) (rm : Int32 × (Nat → Int32)), mX3_theft s_x_trial s_x_now s_x_trial_grants s_x_now_grants s_x_now_grants_cells s_x_trial_grants_cells s_x_trial_routes s_x_now_routes s_x_now_routes_cells s_x_trial_routes_cells s_x_papers s_x_papers_cells v1 v2 v3 = some rx ∧ mX4_theft s_m_now s_m_trial s_m_paper v1 v2 v3 = some rm ∧ rx.1 = rm.1 ∧ Rel s_x s_x_papers s_x_papers_cells s_x_now s_x_now_grants s_x_now_grants_cells s_x_now_routes s_x_now_routes_cells rx.2.1 rx.2.2.1 rx.2.2.2.1 rx.2.2.2.2.1 rx.2.2.2.2.2 s_x_firstSlot s_x_firstSlot_grants s_x_firstSlot_grants_cells s_x_firstSlot_routes s_x_firstSlot_routes_cells s_x_secondSlot s_x_secondSlot_grants s_x_secondSlot_grants_cells s_x_secondSlot_routes s_x_secondSlot_routes_cells s_x_acts s_x_acts_cells s_x_seen s_x_seen_cells s_x_text s_x_text_letters s_x_text_papers s_x_text_papers_cells s_x_text_grants s_x_text_grants_cells s_x_text_routes s_x_text_routes_cells s_x_doings s_m s_m_text s_m_paper s_m_now rm.2 s_m_diary s_m_kept s_m_isKept s_m_seenAt s_m_worth s_m_readPaper s_m_read := by
  obtain ⟨P, bk, hs, k0, k1, sn, t, len, nx, hW, hC, hR⟩ := id h
  obtain ⟨wP, wB, wh1, wh2, wk0, wk1, ws1, ws2, wl1, wl2, wn⟩ := id hW
  obtain ⟨bG1, bR1, bG, bR, bD⟩ := id wB
  obtain ⟨cP, cN, cT, cK0, cK1, cA, cS, cX, cW, cM⟩ := id hC
  obtain ⟨cb, cg, cr⟩ := id cN
  obtain ⟨rM, rX, rP, rN, rD, rK, rS⟩ := id hR
  obtain ⟨m1, m2, m3, m4, m5, m6⟩ := id rM
  obtain ⟨n1, n2, z0, zg, z41, zr, z63, z64, z65⟩ := id rN
  have hday : bk.2.2.2.2 < 2 ^ 31 := by omega
  rcases place_any v1 with ⟨p, hp, rfl, e1, e2⟩ | ⟨e1, e2⟩
  · rcases org_any v2 with ⟨o, ho, rfl, f1, f2⟩ | ⟨f1, f2⟩
    · rcases law_any v3 with ⟨a, ha, rfl, g1, g2⟩ | ⟨g1, g2⟩
      · obtain ⟨rx, rm, q1, q2, q3, q4⟩ := theft_l wP wB cP cN rP rN hp ho ha FU FU 0 s_x_trial s_x_trial_grants s_x_trial_grants_cells s_x_trial_routes s_x_trial_routes_cells s_m_trial (by decide) (by rw [FU_eq]; decide) (by rw [FU_eq]; decide) cT
        refine ⟨rx, rm, ?_, ?_, q3, P, bk, hs, k0, k1, sn, t, len, nx, hW, ⟨cP, cN, q4, cK0, cK1, cA, cS, cX, cW, cM⟩, hR⟩
        · unfold mX3_theft
          rw [e1, Option.bind_some, if_pos rfl, f1, Option.bind_some, if_pos rfl, g1, Option.bind_some, if_pos rfl]
          exact q1
        · unfold mX4_theft
          rw [e2, Option.bind_some, if_pos rfl, f2, Option.bind_some, if_pos rfl, g2, Option.bind_some, if_pos rfl]
          exact q2
      · refine ⟨(-2, s_x_trial, s_x_trial_grants, s_x_trial_grants_cells, s_x_trial_routes, s_x_trial_routes_cells), (-2, s_m_trial), by unfold mX3_theft; rw [e1, Option.bind_some, if_pos rfl, f1, Option.bind_some, if_pos rfl, g1]; rfl, by unfold mX4_theft; rw [e2, Option.bind_some, if_pos rfl, f2, Option.bind_some, if_pos rfl, g2]; rfl, rfl, h⟩
    · refine ⟨(-1, s_x_trial, s_x_trial_grants, s_x_trial_grants_cells, s_x_trial_routes, s_x_trial_routes_cells), (-1, s_m_trial), by unfold mX3_theft; rw [e1, Option.bind_some, if_pos rfl, f1]; rfl, by unfold mX4_theft; rw [e2, Option.bind_some, if_pos rfl, f2]; rfl, rfl, h⟩
  · refine ⟨(-1, s_x_trial, s_x_trial_grants, s_x_trial_grants_cells, s_x_trial_routes, s_x_trial_routes_cells), (-1, s_m_trial), by unfold mX3_theft; rw [e1]; rfl, by unfold mX4_theft; rw [e2]; rfl, rfl, h⟩
set_option maxHeartbeats 1000000 in
theorem L_lost (h : Rel s_x s_x_papers s_x_papers_cells s_x_now s_x_now_grants s_x_now_grants_cells s_x_now_routes s_x_now_routes_cells s_x_trial s_x_trial_grants s_x_trial_grants_cells s_x_trial_routes s_x_trial_routes_cells s_x_firstSlot s_x_firstSlot_grants s_x_firstSlot_grants_cells s_x_firstSlot_routes s_x_firstSlot_routes_cells s_x_secondSlot s_x_secondSlot_grants s_x_secondSlot_grants_cells s_x_secondSlot_routes s_x_secondSlot_routes_cells s_x_acts s_x_acts_cells s_x_seen s_x_seen_cells s_x_text s_x_text_letters s_x_text_papers s_x_text_papers_cells s_x_text_grants s_x_text_grants_cells s_x_text_routes s_x_text_routes_cells s_x_doings s_m s_m_text s_m_paper s_m_now s_m_trial s_m_diary s_m_kept s_m_isKept s_m_seenAt s_m_worth s_m_readPaper s_m_read) (v1 : Int32) : ∃ (rx : Int32) (rm : Int32 × (Nat → Int32)), mX3_lost s_x_papers s_x_now s_x_papers_cells s_x_now_grants s_x_now_grants_cells s_x_now_routes s_x_now_routes_cells v1 = some rx ∧ mX4_lost s_m s_m_now s_m_trial s_m_paper v1 = some rm ∧ rx = rm.1 ∧ Rel s_x s_x_papers s_x_papers_cells s_x_now s_x_now_grants s_x_now_grants_cells s_x_now_routes s_x_now_routes_cells s_x_trial s_x_trial_grants s_x_trial_grants_cells s_x_trial_routes s_x_trial_routes_cells s_x_firstSlot s_x_firstSlot_grants s_x_firstSlot_grants_cells s_x_firstSlot_routes s_x_firstSlot_routes_cells s_x_secondSlot s_x_secondSlot_grants s_x_secondSlot_grants_cells s_x_secondSlot_routes s_x_secondSlot_routes_cells s_x_acts s_x_acts_cells s_x_seen s_x_seen_cells s_x_text s_x_text_letters s_x_text_papers s_x_text_papers_cells s_x_text_grants s_x_text_grants_cells s_x_text_routes s_x_text_routes_cells s_x_doings s_m s_m_text s_m_paper s_m_now rm.2 s_m_diary s_m_kept s_m_isKept s_m_seenAt s_m_worth s_m_readPaper s_m_read := by
  obtain ⟨P, bk, hs, k0, k1, sn, t, len, nx, hW, hC, hR⟩ := id h
  obtain ⟨wP, wB, wh1, wh2, wk0, wk1, ws1, ws2, wl1, wl2, wn⟩ := id hW
  obtain ⟨bG1, bR1, bG, bR, bD⟩ := id wB
  obtain ⟨cP, cN, cT, cK0, cK1, cA, cS, cX, cW, cM⟩ := id hC
  obtain ⟨cb, cg, cr⟩ := id cN
  obtain ⟨rM, rX, rP, rN, rD, rK, rS⟩ := id hR
  obtain ⟨m1, m2, m3, m4, m5, m6⟩ := id rM
  obtain ⟨n1, n2, z0, zg, z41, zr, z63, z64, z65⟩ := id rN
  have hday : bk.2.2.2.2 < 2 ^ 31 := by omega
  have e4 := isPaper_r m2 v1
  by_cases c0 : v1 = 0
  · refine ⟨-1, (-1, s_m_trial), by unfold mX3_lost; rw [if_pos c0], ?_, rfl, h⟩
    unfold mX4_lost
    rw [e4]
    rcases idx_any v1 (n := P.length) (by have := wP.2.1; omega) with ⟨i, hi, rfl, e2⟩ | ⟨hne, e2⟩
    · rw [e2, Option.bind_some, if_pos rfl, if_pos c0]
    · rw [e2, Option.bind_some, if_neg (by decide)]
  · rcases idx_both cP v1 with ⟨i, hi, rfl, e1, e2⟩ | ⟨hne, e1, e2⟩
    · obtain ⟨g1, eg, hg⟩ := copy_r s_m_now s_m_trial
      have hg2 := RowR.cong rN hg
      have hg3 := RowR.rev hg2 (bk.2.2.1 ||| ((1 : Int32) <<< (nI i &&& 31)))
      have qc := those_c (gOk.v bG) bR cg cr (cnK P bk.1 bk.2.2.1 bk.2.2.2.1 bk.2.2.2.2) (msk (cnK P bk.1 bk.2.2.1 bk.2.2.2.1 bk.2.2.2.2) bk.1.length) (msk_bi (by omega)) 2 (by decide)
      have qd := those_c (gOk.v bG) bR cg cr (cnK P bk.1 (bk.2.2.1 ||| ((1 : Int32) <<< (nI i &&& 31))) bk.2.2.2.1 bk.2.2.2.2) (msk (cnK P bk.1 (bk.2.2.1 ||| ((1 : Int32) <<< (nI i &&& 31))) bk.2.2.2.1 bk.2.2.2.2) bk.1.length) (msk_bi (by omega)) 2 (by decide)
      have qe : mX0_counting s_x_now s_x_now_grants s_x_now_grants_cells s_x_papers s_x_papers_cells (msk (stB P (bk.2.2.1 ||| ((1 : Int32) <<< (nI i &&& 31))) bk.2.2.2.2) P.length) = some (msk (cnK P bk.1 (bk.2.2.1 ||| ((1 : Int32) <<< (nI i &&& 31))) bk.2.2.2.1 bk.2.2.2.2) bk.1.length) := counting_ok wP bG cP cg _ (by rw [cb])
      refine ⟨(msk (fun k => decide (qS (cnK P bk.1 bk.2.2.1 bk.2.2.2.1 bk.2.2.2.2) bk.1 bk.2.1 k = 2)) bk.2.1.length &&& (msk (fun k => decide (qS (cnK P bk.1 (bk.2.2.1 ||| ((1 : Int32) <<< (nI i &&& 31))) bk.2.2.2.1 bk.2.2.2.2) bk.1 bk.2.1 k = 2)) bk.2.1.length ^^^ (-1 : Int32))), ((msk (fun k => decide (qS (cnK P bk.1 bk.2.2.1 bk.2.2.2.1 bk.2.2.2.2) bk.1 bk.2.1 k = 2)) bk.2.1.length &&& (msk (fun k => decide (qS (cnK P bk.1 (bk.2.2.1 ||| ((1 : Int32) <<< (nI i &&& 31))) bk.2.2.2.1 bk.2.2.2.2) bk.1 bk.2.1 k = 2)) bk.2.1.length ^^^ (-1 : Int32))), upd g1 63 (bk.2.2.1 ||| ((1 : Int32) <<< (nI i &&& 31)))), ?_, ?_, rfl, h⟩
      · unfold mX3_lost
        rw [if_neg c0, e1, Option.bind_some, if_pos rfl, standing_ok wP cP _ (show s_x_now.2.2 = nI bk.2.2.2.2 by rw [cb]) hday, Option.bind_some, show s_x_now.1 = bk.2.2.1 by rw [cb], qe, Option.bind_some, countingNow_ok wP bG cP cg cb hday, Option.bind_some, L2, qc, Option.bind_some, qd, Option.bind_some]
      · unfold mX4_lost
        rw [e4, e2, Option.bind_some, if_pos rfl, if_neg c0, eg, Option.bind_some, L63, rd_ok rfl (by decide) (by decide), hg2.2.2.2.2.2.2.1, wr_ok rfl (by decide) (by decide), L2, those_r wP bG bR rP rN hday 2 (by decide), Option.bind_some, those_r wP bG bR rP hg3 hday 2 (by decide), Option.bind_some]
    · refine ⟨-1, (-1, s_m_trial), by unfold mX3_lost; rw [if_neg c0, e1]; rfl, ?_, rfl, h⟩
      unfold mX4_lost
      rw [e4, e2]
      rfl
set_option maxHeartbeats 1000000 in
theorem L_drawn (h : Rel s_x s_x_papers s_x_papers_cells s_x_now s_x_now_grants s_x_now_grants_cells s_x_now_routes s_x_now_routes_cells s_x_trial s_x_trial_grants s_x_trial_grants_cells s_x_trial_routes s_x_trial_routes_cells s_x_firstSlot s_x_firstSlot_grants s_x_firstSlot_grants_cells s_x_firstSlot_routes s_x_firstSlot_routes_cells s_x_secondSlot s_x_secondSlot_grants s_x_secondSlot_grants_cells s_x_secondSlot_routes s_x_secondSlot_routes_cells s_x_acts s_x_acts_cells s_x_seen s_x_seen_cells s_x_text s_x_text_letters s_x_text_papers s_x_text_papers_cells s_x_text_grants s_x_text_grants_cells s_x_text_routes s_x_text_routes_cells s_x_doings s_m s_m_text s_m_paper s_m_now s_m_trial s_m_diary s_m_kept s_m_isKept s_m_seenAt s_m_worth s_m_readPaper s_m_read) (v1 : Int32) : ∃ (rx : Int32 × (Int32 × Int64)) (rm : Int32 × (Int32 × Int32 × Int32 × Int32 × Int32 × Int32 × Int32 × Int32 × Int32 × Int64)), mX3_drawn s_x s_x_now s_x_papers s_x_papers_cells s_x_now_grants s_x_now_grants_cells v1 = some rx ∧ mX4_drawn s_m s_m_now s_m_paper v1 = some rm ∧ rx.1 = rm.1 ∧ Rel rx.2 s_x_papers s_x_papers_cells s_x_now s_x_now_grants s_x_now_grants_cells s_x_now_routes s_x_now_routes_cells s_x_trial s_x_trial_grants s_x_trial_grants_cells s_x_trial_routes s_x_trial_routes_cells s_x_firstSlot s_x_firstSlot_grants s_x_firstSlot_grants_cells s_x_firstSlot_routes s_x_firstSlot_routes_cells s_x_secondSlot s_x_secondSlot_grants s_x_secondSlot_grants_cells s_x_secondSlot_routes s_x_secondSlot_routes_cells s_x_acts s_x_acts_cells s_x_seen s_x_seen_cells s_x_text s_x_text_letters s_x_text_papers s_x_text_papers_cells s_x_text_grants s_x_text_grants_cells s_x_text_routes s_x_text_routes_cells s_x_doings rm.2 s_m_text s_m_paper s_m_now s_m_trial s_m_diary s_m_kept s_m_isKept s_m_seenAt s_m_worth s_m_readPaper s_m_read := by
  obtain ⟨P, bk, hs, k0, k1, sn, t, len, nx, hW, hC, hR⟩ := id h
  obtain ⟨wP, wB, wh1, wh2, wk0, wk1, ws1, ws2, wl1, wl2, wn⟩ := id hW
  obtain ⟨bG1, bR1, bG, bR, bD⟩ := id wB
  obtain ⟨cP, cN, cT, cK0, cK1, cA, cS, cX, cW, cM⟩ := id hC
  obtain ⟨cb, cg, cr⟩ := id cN
  obtain ⟨rM, rX, rP, rN, rD, rK, rS⟩ := id hR
  obtain ⟨m1, m2, m3, m4, m5, m6⟩ := id rM
  obtain ⟨n1, n2, z0, zg, z41, zr, z63, z64, z65⟩ := id rN
  have hday : bk.2.2.2.2 < 2 ^ 31 := by omega
  have hin : mX4_in v1.toInt64 (1 : Int64) (40 : Int64) = some (decide ((1 : Int32) ≤ v1 ∧ v1 ≤ 40)) := in_i v1 1 40
  by_cases c0 : v1 < 1
  · refine ⟨(-2, s_x), (-2, s_m), by unfold mX3_drawn; rw [if_pos c0], ?_, rfl, h⟩
    unfold mX4_drawn
    rw [hin, decide_eq_false (fun z => Int32.not_le.mpr c0 z.1)]
    rfl
  · by_cases c1 : v1 ≤ 40
    · obtain ⟨M, hM, rfl⟩ := nI_of (x := v1) (fun z => c0 (Int32.lt_trans z (by decide)))
      have hM40 : M ≤ 40 := by
        rw [show (40 : Int32) = nI 40 from rfl, nI_leI hM (by decide)] at c1
        exact c1
      obtain ⟨rx, rm, q1, q2, q3, q4, q5⟩ := drawn_l (po := s_x_papers) (pa := s_x_papers_cells) (bo := s_x_now) wP wB cg rP rN hM FU FU 0 0 s_x s_m (Nat.zero_le _) (by rw [FU_eq]; omega) (by rw [FU_eq]; omega) m6
      refine ⟨rx, rm, ?_, ?_, q3, P, bk, hs, k0, k1, sn, t, len, nx, hW, ⟨cP, cN, cT, cK0, cK1, cA, cS, cX, cW, by rw [q4]; exact cM⟩, ?_, rX, rP, rN, rD, rK, rS⟩
      · unfold mX3_drawn
        rw [if_neg c0, if_pos c1, countingNow_ok wP bG cP cg cb hday, Option.bind_some]
        exact q1
      · unfold mX4_drawn
        rw [hin, decide_eq_true ⟨Int32.not_lt.mp c0, c1⟩, Option.bind_some, if_pos rfl]
        exact q2
      · rw [q5]
        exact ⟨m1, m2, m3, m4, m5, rfl⟩
    · refine ⟨(-2, s_x), (-2, s_m), by unfold mX3_drawn; rw [if_neg c0, if_neg c1], ?_, rfl, h⟩
      unfold mX4_drawn
      rw [hin, decide_eq_false (fun z => c1 z.2)]
      rfl
end L2
