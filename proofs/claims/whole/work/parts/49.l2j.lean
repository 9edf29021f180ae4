/-! chances -/
def wgt (n x S : Nat) : Nat := x ^ popN S * (10 - x) ^ (n - popN S)
theorem wgt_sum : ∀ n, n < 6 → ∀ x, x < 11 → sumN (wgt n x) (2 ^ n) = 10 ^ n := by decide +kernel
def wl (x S : Nat) : Nat → Nat
  | 0 => 1
  | j + 1 => wl x S j * (if S.testBit j = true then x else 10 - x)
theorem wl_eq (x S : Nat) : ∀ j, wl x S j = x ^ cnt (fun i => S.testBit i) j * (10 - x) ^ (j - cnt (fun i => S.testBit i) j)
  | 0 => rfl
  | j + 1 => by
    have hc := cnt_le (fun i => S.testBit i) j
    rw [wl, wl_eq x S j, cnt_s]
    by_cases h : S.testBit j = true
    · rw [if_pos h, if_pos h, show j + 1 - (cnt (fun i => S.testBit i) j + 1) = j - cnt (fun i => S.testBit i) j by omega, Nat.pow_succ, Nat.mul_right_comm]
    · rw [if_neg h, if_neg h, show j + 1 - (cnt (fun i => S.testBit i) j + 0) = (j - cnt (fun i => S.testBit i) j) + 1 by omega, Nat.pow_succ, Nat.mul_assoc, Nat.add_zero]
theorem pop_n {n S : Nat} (hn : n ≤ 8) (hS : S < 2 ^ n) : popN S = cnt (fun i => S.testBit i) n := by
  unfold popN
  rw [cnt_cong (q := fun j => decide (j < n) && S.testBit j) (fun k hk => by
    by_cases z : k < n
    · rw [decide_eq_true z, Bool.true_and]
    · rw [decide_eq_false z, Bool.false_and]
      exact Nat.testBit_lt_two_pow (Nat.lt_of_lt_of_le hS (Nat.pow_le_pow_right (by decide) (by omega)))), cnt_cut _ _ 8 hn]
theorem wl_wgt {n x S : Nat} (hn : n ≤ 8) (hS : S < 2 ^ n) : wl x S n = wgt n x S := by
  rw [wl_eq]
  unfold wgt
  rw [pop_n hn hS]
theorem weight_l {po : I3} {n x S : Nat} (hpo : po.2.2 = nI (n + 1)) (hn : n ≤ 5) (hx : x ≤ 10) (hS : S < 2 ^ n) : ∀ (m j : Nat), j ≤ n → n - j < m → mX3_weightOf_b5 po (nI (2 * S)) (nI x) m (nI (wl x S j)) (nI (j + 1)) = some (nI (wgt n x S)) := by
  have hp : 2 ^ n ≤ 2 ^ 5 := Nat.pow_le_pow_right (n := 2) (by decide) hn
  intro m
  induction m with
  | zero => intro j h1 h2; omega
  | succ m ih =>
    intro j h1 h2
    rw [mX3_weightOf_b5, hpo]
    by_cases hj : j < n
    · have eb : bi (nI (2 * S)) (j + 1) = S.testBit j := by
        rw [bi_nat (by omega) (by omega), Nat.testBit_succ, Nat.mul_div_cancel_left _ (by decide)]
      have hw : wl x S (j + 1) = wl x S j * (if S.testBit j = true then x else 10 - x) := rfl
      rw [if_neg (nI_ge (by omega) (by omega)), mbit, eb, Option.bind_some, L10, pk_sub hx, pk_mul, pk_mul, nI_1]
      cases y : S.testBit j with
      | true =>
        rw [y, if_pos rfl] at hw
        rw [if_pos (show b2i true = (1 : Int32) from rfl), ← hw]
        exact ih (j + 1) hj (by omega)
      | false =>
        rw [y, if_neg Bool.false_ne_true] at hw
        rw [if_neg (show ¬ b2i false = (1 : Int32) by decide), ← hw]
        exact ih (j + 1) hj (by omega)
    · have : j = n := by omega
      subst this
      rw [if_pos (nI_le (Nat.le_refl _) (by omega)), wl_wgt (by omega) hS]
theorem weight_c {po : I3} {n x S : Nat} (hpo : po.2.2 = nI (n + 1)) (hn : n ≤ 5) (hx : x ≤ 10) (hS : S < 2 ^ n) : mX3_weightOf po (nI (2 * S)) (nI x) = some (nI (wgt n x S)) := by
  unfold mX3_weightOf
  exact weight_l hpo hn hx hS FU 0 (Nat.zero_le _) (by rw [FU_eq]; omega)
theorem power_l {a b : Nat} (hb : b < 2 ^ 31) : ∀ (m i : Nat), i ≤ b → b - i < m → mX4_power_b4 (nI a) (nI b) m (nI (a ^ i)) (nI i) = some (nI (a ^ b)) := by
  intro m
  induction m with
  | zero => intro i h1 h2; omega
  | succ m ih =>
    intro i h1 h2
    rw [mX4_power_b4]
    by_cases hi : i < b
    · rw [if_neg (nI_ge hi hb), pk_mul, nI_1, ← Nat.pow_succ]
      exact ih (i + 1) hi (by omega)
    · have : i = b := by omega
      subst this
      rw [if_pos (nI_le (Nat.le_refl _) hb)]
theorem power_r {a b : Nat} (hb : b < 1000) : mX4_power (nI a) (nI b) = some (nI (a ^ b)) := by
  unfold mX4_power
  exact power_l (by omega) FU 0 (Nat.zero_le _) (by rw [FU_eq]; omega)
def cR (P : List PN) (G : List GN) (R : List RN) (aside : Int32) (day S : Nat) : Nat := cnt (fun k => decide (qS (cnK P G (nI (2 * S)) aside day) G R k = 2)) R.length
def chS (P : List PN) (G : List GN) (R : List RN) (aside : Int32) (day n x need S : Nat) : Nat := sumN (fun S => if cR P G R aside day S < need then 0 else wgt n x S) S
section CH
variable {P : List PN} {G : List GN} {R : List RN} {rev aside : Int32} {day : Nat} {f w : Nat → Int32} {bo po go ro : I3} {pa ga ra : Ar}
theorem chance_cl (hP : PLok P) (hG : ∀ k, k < G.length → gOk P.length (gA G k)) (hn8 : G.length ≤ 8) (hR : ∀ k, k < R.length → rOk (rA R k)) (hr7 : R.length ≤ 7) (h : PapC P po pa) (g : GrC G go ga) (r : RtC R ro ra) (hb : bo = (rev, aside, nI day)) (hday : day < 2 ^ 31) {n x need : Nat} (hn : P.length = n + 1) (hx : x ≤ 10) (hnd : need ≤ 6) (v3 : Bool) : ∀ (m S : Nat), S ≤ 2 ^ n → 2 ^ n - S < m → mX3_chance_b32 po bo pa go ga ro ra (nI need) (nI x) v3 m (nI (chS P G R aside day n x need S)) (nI (sumN (wgt n x) S)) (nI S) = mX3_fraction (nI (chS P G R aside day n x need (2 ^ n))) (nI (10 ^ n)) v3 := by
  have hn5 : n ≤ 5 := by have := hP.2.1; omega
  have hp : 2 ^ n ≤ 2 ^ 5 := Nat.pow_le_pow_right (n := 2) (by decide) hn5
  intro m
  induction m with
  | zero => intro S h1 h2; omega
  | succ m ih =>
    intro S h1 h2
    rw [mX3_chance_b32, h.cnt, hn, L1, pk_sub (by omega), show n + 1 - 1 = n by omega, ← L1, sh1 n (by omega)]
    by_cases hS : S < 2 ^ n
    · have e0 : nI S <<< ((1 : Int32) &&& 31) = nI (2 * S) := by rw [pk_shlN _ 1 (by decide) (by omega), Nat.mul_comm]
      have qe : mX0_counting bo go ga po pa (msk (stB P (nI (2 * S)) day) P.length) = some (msk (cnK P G (nI (2 * S)) aside day) G.length) := counting_ok hP hG h g _ (by rw [hb])
      have qd := those_c (gOk.v hG) hR g r (cnK P G (nI (2 * S)) aside day) (msk (cnK P G (nI (2 * S)) aside day) G.length) (msk_bi (by omega)) 2 (by decide)
      have qc : cnt (bi (msk (fun k => decide (qS (cnK P G (nI (2 * S)) aside day) G R k = 2)) R.length)) 32 = cR P G R aside day S := by
        rw [cnt_cong (q := fun j => decide (j < R.length) && decide (qS (cnK P G (nI (2 * S)) aside day) G R j = 2)) (fun j hj => bi_msk _ (by omega) hj)]
        exact cnt_cut _ _ 32 (by omega)
      have hc : cR P G R aside day S ≤ R.length := cnt_le _ _
      have hs : chS P G R aside day n x need (S + 1) = chS P G R aside day n x need S + (if cR P G R aside day S < need then 0 else wgt n x S) := rfl
      have ht : sumN (wgt n x) (S + 1) = sumN (wgt n x) S + wgt n x S := rfl
      rw [if_neg (nI_ge hS (by omega)), e0, weight_c (by rw [h.cnt, hn]) hn5 hx hS, Option.bind_some, standing_ok hP h _ (show bo.2.2 = nI day by rw [hb]) hday, Option.bind_some, qe, Option.bind_some, L2, qd, Option.bind_some, bitCount_ok, qc, Option.bind_some, nI_add, nI_add, nI_1, ← ht]
      by_cases y : cR P G R aside day S < need
      · rw [if_pos y] at hs
        have hs' : chS P G R aside day n x need (S + 1) = chS P G R aside day n x need S := hs
        rw [if_pos (nI_lt y (by omega)), ← hs']
        exact ih (S + 1) hS (by omega)
      · rw [if_neg y] at hs
        rw [if_neg (nI_nlt (by omega) (by omega)), ← hs]
        exact ih (S + 1) hS (by omega)
    · have : S = 2 ^ n := by omega
      subst this
      rw [if_pos (nI_le (Nat.le_refl _) (by omega)), wgt_sum n (by omega) x (by omega)]
      cases mX3_fraction (nI (chS P G R aside day n x need (2 ^ n))) (nI (10 ^ n)) v3 <;> rfl
theorem chance_rl (hP : PLok P) (hG : ∀ k, k < G.length → gOk P.length (gA G k)) (hR : ∀ k, k < R.length → rOk (rA R k)) (h : PapR P f) (hr : RowR G R rev aside day w) (hday : day < 2 ^ 31) (t : MO) {n x need : Nat} (hn : P.length = n + 1) (hx : x ≤ 10) (hnd : need ≤ 6) (v3 : Bool) : ∀ (m S : Nat) (g : Nat → Int32), S ≤ 2 ^ n → 2 ^ n - S < m → ∃ g', mX4_chance_b41 t w f (nI need) (nI x) v3 (nI n) m (nI (chS P G R aside day n x need S)) (nI S) g = (mX4_fraction (nI (chS P G R aside day n x need (2 ^ n))) (nI (10 ^ n)) v3).bind (fun z => some (z, g')) := by
  have hn5 : n ≤ 5 := by have := hP.2.1; omega
  have hp : 2 ^ n ≤ 2 ^ 5 := Nat.pow_le_pow_right (n := 2) (by decide) hn5
  have h7 := hr.2.1
  intro m
  induction m with
  | zero => intro S g h1 h2; omega
  | succ m ih =>
    intro S g h1 h2
    rw [mX4_chance_b41, sh1 n (by omega)]
    by_cases hS : S < 2 ^ n
    · obtain ⟨g1, eg, hg⟩ := copy_r w g
      have hg2 := RowR.rev (RowR.cong hr hg) (nI (2 * S))
      have hpn := pop_n (n := n) (by omega) hS
      have hpl : popN S ≤ n := by rw [hpn]; exact cnt_le _ _
      have e3 : mX4_ones (msk (fun k => decide (qS (cnK P G (nI (2 * S)) aside day) G R k = 2)) R.length) = some (nI (cR P G R aside day S)) := by
        have hl := mskN_lt (fun k => decide (qS (cnK P G (nI (2 * S)) aside day) G R k = 2)) R.length
        have h27 : 2 ^ R.length ≤ 2 ^ 7 := Nat.pow_le_pow_right (n := 2) (by decide) h7
        rw [msk_nat _ _ (by omega), ones_r (by omega)]
        unfold popN cR
        rw [cnt_cong (q := fun j => decide (j < R.length) && decide (qS (cnK P G (nI (2 * S)) aside day) G R j = 2)) (fun j hj => mskN_bit _ _ _), cnt_cut _ _ 8 (by omega)]
      have hc : cR P G R aside day S ≤ R.length := cnt_le _ _
      have hs : chS P G R aside day n x need (S + 1) = chS P G R aside day n x need S + (if cR P G R aside day S < need then 0 else wgt n x S) := rfl
      rw [if_neg (nI_ge hS (by omega)), eg, Option.bind_some, show (2 : Int32) * nI S = nI (2 * S) from pk_mul 2 S, wr_ok (show (63 : Int32) = nI 63 from rfl) (by decide) (by decide), ones_r (by omega), Option.bind_some, L2, those_r hP hG hR h hg2 hday 2 (by decide), Option.bind_some, e3, Option.bind_some, nI_1]
      by_cases y : cR P G R aside day S < need
      · rw [if_pos y] at hs
        rw [if_pos (nI_lt y (by omega)), L0, nI_add, ← hs]
        exact ih (S + 1) _ hS (by omega)
      · rw [if_neg y] at hs
        rw [if_neg (nI_nlt (by omega) (by omega)), power_r (by omega), Option.bind_some, L10, pk_sub hx, pk_sub hpl, power_r (by omega), Option.bind_some, pk_mul, nI_add]
        have := ih (S + 1) (upd g1 63 (nI (2 * S))) hS (by omega)
        rw [hs] at this
        exact this
    · have : S = 2 ^ n := by omega
      subst this
      rw [if_pos (nI_le (Nat.le_refl _) (by omega)), L10, power_r (by omega), Option.bind_some]
      exact ⟨g, rfl⟩
theorem sumN_mono {f h : Nat → Nat} : ∀ {n : Nat}, (∀ i, i < n → f i ≤ h i) → sumN f n ≤ sumN h n
  | 0, _ => Nat.le_refl _
  | n + 1, e => by
    have h1 := sumN_mono (n := n) (fun i hi => e i (by omega))
    have h2 := e n (by omega)
    rw [sumN_s, sumN_s]
    omega
end CH
section L2
variable {s_x : Int32 × Int64} {s_x_papers : Int32 × Int32 × Int32} {s_x_papers_cells : Ar} {s_x_now : Int32 × Int32 × Int32} {s_x_now_grants : Int32 × Int32 × Int32} {s_x_now_grants_cells : Ar} {s_x_now_routes : Int32 × Int32 × Int32} {s_x_now_routes_cells : Ar} {s_x_trial : Int32 × Int32 × Int32} {s_x_trial_grants : Int32 × Int32 × Int32} {s_x_trial_grants_cells : Ar} {s_x_trial_routes : Int32 × Int32 × Int32} {s_x_trial_routes_cells : Ar} {s_x_firstSlot : Int32 × Int32 × Int32} {s_x_firstSlot_grants : Int32 × Int32 × Int32} {s_x_firstSlot_grants_cells : Ar} {s_x_firstSlot_routes : Int32 × Int32 × Int32} {s_x_firstSlot_routes_cells : Ar} {s_x_secondSlot : Int32 × Int32 × Int32} {s_x_secondSlot_grants : Int32 × Int32 × Int32} {s_x_secondSlot_grants_cells : Ar} {s_x_secondSlot_routes : Int32 × Int32 × Int32} {s_x_secondSlot_routes_cells : Ar} {s_x_acts : Int32 × Int32 × Int32} {s_x_acts_cells : Ar} {s_x_seen : Int32 × Int32 × Int32} {s_x_seen_cells : Ar} {s_x_text : Int32 × Int32 × Int32} {s_x_text_letters : Nat → Int32} {s_x_text_papers : Int32 × Int32 × Int32} {s_x_text_papers_cells : Ar} {s_x_text_grants : Int32 × Int32 × Int32} {s_x_text_grants_cells : Ar} {s_x_text_routes : Int32 × Int32 × Int32} {s_x_text_routes_cells : Ar} {s_x_doings : Nat → Int32} {s_m : Int32 × Int32 × Int32 × Int32 × Int32 × Int32 × Int32 × Int32 × Int32 × Int64} {s_m_text : Nat → Int32} {s_m_paper : Nat → Int32} {s_m_now : Nat → Int32} {s_m_trial : Nat → Int32} {s_m_diary : Nat → Int32} {s_m_kept : Nat → Int32} {s_m_isKept : Nat → Int32} {s_m_seenAt : Nat → Int32} {s_m_worth : Nat → Int32} {s_m_readPaper : Nat → Int32} {s_m_read : Nat → Int32}
set_option maxHeartbeats 1000000 in
theorem L_chance (h : Rel s_x s_x_papers s_x_papers_cells s_x_now s_x_now_grants s_x_now_grants_cells s_x_now_routes s_x_now_routes_cells s_x_trial s_x_trial_grants s_x_trial_grants_cells s_x_trial_routes s_x_trial_routes_cells s_x_firstSlot s_x_firstSlot_grants s_x_firstSlot_grants_cells s_x_firstSlot_routes s_x_firstSlot_routes_cells s_x_secondSlot s_x_secondSlot_grants s_x_secondSlot_grants_cells s_x_secondSlot_routes s_x_secondSlot_routes_cells s_x_acts s_x_acts_cells s_x_seen s_x_seen_cells s_x_text s_x_text_letters s_x_text_papers s_x_text_papers_cells s_x_text_grants s_x_text_grants_cells s_x_text_routes s_x_text_routes_cells s_x_doings s_m s_m_text s_m_paper s_m_now s_m_trial s_m_diary s_m_kept s_m_isKept s_m_seenAt s_m_worth s_m_readPaper s_m_read) (v1 : Int32) (v2 : Int32) (v3 : Bool) : ∃ (rx : Int32) (rm : Int32 × (Nat → Int32)), mX3_chance s_x_papers s_x_now s_x_papers_cells s_x_now_grants s_x_now_grants_cells s_x_now_routes s_x_now_routes_cells v1 v2 v3 = some rx ∧ mX4_chance s_m s_m_now s_m_trial s_m_paper v1 v2 v3 = some rm ∧ rx = rm.1 ∧ Rel s_x s_x_papers s_x_papers_cells s_x_now s_x_now_grants s_x_now_grants_cells s_x_now_routes s_x_now_routes_cells s_x_trial s_x_trial_grants s_x_trial_grants_cells s_x_trial_routes s_x_trial_routes_cells s_x_firstSlot s_x_firstSlot_grants s_x_firstSlot_grants_cells s_x_firstSlot_routes s_x_firstSlot_routes_cells s_x_secondSlot s_x_secondSlot_grants s_x_secondSlot_grants_cells s_x_secondSlot_routes s_x_secondSlot_routes_cells s_x_acts s_x_acts_cells s_x_seen s_x_seen_cells s_x_text s_x_text_letters s_x_text_papers s_x_text_papers_cells s_x_text_grants s_x_text_grants_cells s_x_text_routes s_x_text_routes_cells s_x_doings s_m s_m_text s_m_paper s_m_now rm.2 s_m_diary s_m_kept s_m_isKept s_m_seenAt s_m_worth s_m_readPaper s_m_read := by
  obtain ⟨P, bk, hs, k0, k1, sn, t, len, nx, hW, hC, hR⟩ := id h
  obtain ⟨wP, wB, wh1, wh2, wk0, wk1, ws1, ws2, wl1, wl2, wn⟩ := id hW
  obtain ⟨bG1, bR1, bG, bR, bD⟩ := id wB
  obtain ⟨cP, cN, cT, cK0, cK1, cA, cS, cX, cW, cM⟩ := id hC
  obtain ⟨cb, cg, cr⟩ := id cN
  obtain ⟨rM, rX, rP, rN, rD, rK, rS⟩ := id hR
  obtain ⟨m1, m2, m3, m4, m5, m6⟩ := id rM
  obtain ⟨n1, n2, z0, zg, z41, zr, z63, z64, z65⟩ := id rN
  have hday : bk.2.2.2.2 < 2 ^ 31 := by omega
  have hi1 : mX4_in v1.toInt64 (0 : Int64) (6 : Int64) = some (decide ((0 : Int32) ≤ v1 ∧ v1 ≤ 6)) := in_i v1 0 6
  have hi2 : mX4_in v2.toInt64 (0 : Int64) (10 : Int64) = some (decide ((0 : Int32) ≤ v2 ∧ v2 ≤ 10)) := in_i v2 0 10
  by_cases c0 : v1 < 0
  · refine ⟨-2, (-2, s_m_trial), by unfold mX3_chance; rw [if_pos c0], ?_, rfl, h⟩
    unfold mX4_chance
    rw [hi1, decide_eq_false (fun z => Int32.not_le.mpr c0 z.1)]
    rfl
  · by_cases c1 : 6 < v1
    · refine ⟨-2, (-2, s_m_trial), by unfold mX3_chance; rw [if_neg c0, if_pos c1], ?_, rfl, h⟩
      unfold mX4_chance
      rw [hi1, decide_eq_false (fun z => Int32.not_le.mpr c1 z.2)]
      rfl
    · have hi1' : mX4_in v1.toInt64 (0 : Int64) (6 : Int64) = some true := by rw [hi1, decide_eq_true ⟨Int32.not_lt.mp c0, Int32.not_lt.mp c1⟩]
      by_cases c2 : v2 < 0
      · refine ⟨-2, (-2, s_m_trial), by unfold mX3_chance; rw [if_neg c0, if_neg c1, if_pos c2], ?_, rfl, h⟩
        unfold mX4_chance
        rw [hi1', Option.bind_some, if_pos rfl, hi2, decide_eq_false (fun z => Int32.not_le.mpr c2 z.1)]
        rfl
      · by_cases c3 : v2 ≤ 10
        · have hi2' : mX4_in v2.toInt64 (0 : Int64) (10 : Int64) = some true := by rw [hi2, decide_eq_true ⟨Int32.not_lt.mp c2, c3⟩]
          obtain ⟨a, ha, rfl⟩ := nI_of c0
          obtain ⟨x, hx, rfl⟩ := nI_of c2
          have ha6 : a ≤ 6 := by
            have := Int32.not_lt.mp c1
            rw [L6, nI_leI ha (by decide)] at this
            exact this
          have hx10 : x ≤ 10 := by
            rw [L10, nI_leI hx (by decide)] at c3
            exact c3
          have hP1 := wP.1
          have hP6 := wP.2.1
          obtain ⟨n, hn⟩ : ∃ n, P.length = n + 1 := ⟨P.length - 1, by omega⟩
          have hn5 : n ≤ 5 := by omega
          have hp : 2 ^ n ≤ 2 ^ 5 := Nat.pow_le_pow_right (n := 2) (by decide) hn5
          have h10 : 0 < 10 ^ n ∧ 10 ^ n ≤ 10 ^ 5 := ⟨Nat.pow_pos (by decide), Nat.pow_le_pow_right (n := 10) (by decide) hn5⟩
          have hle : chS P bk.1 bk.2.1 bk.2.2.2.1 bk.2.2.2.2 n x a (2 ^ n) ≤ 10 ^ n := by
            rw [← wgt_sum n (by omega) x (by omega)]
            exact sumN_mono (fun i hi => by split; exact Nat.zero_le _; exact Nat.le_refl _)
          have hc5 : chS P bk.1 bk.2.1 bk.2.2.2.1 bk.2.2.2.2 n x a (2 ^ n) ≤ 10 ^ 5 := Nat.le_trans hle h10.2
          have ec := chance_cl wP bG bG1 bR n2 cP cg cr cb hday hn hx10 ha6 v3 FU 0 (Nat.zero_le _) (by rw [FU_eq]; omega)
          obtain ⟨g', er⟩ := chance_rl wP bG bR rP rN hday s_m hn hx10 ha6 v3 FU 0 s_m_trial (Nat.zero_le _) (by rw [FU_eq]; omega)
          have hb31 : (10 : Nat) ^ 5 < 2 ^ 31 := by decide
          have ef := frac_eq (a := chS P bk.1 bk.2.1 bk.2.2.2.1 bk.2.2.2.2 n x a (2 ^ n)) (d := 10 ^ n) (b := chS P bk.1 bk.2.1 bk.2.2.2.1 bk.2.2.2.2 n x a (2 ^ n)) (e := 10 ^ n) (by omega) h10.1 (by omega) (by omega) h10.1 (by omega) rfl v3
          have ev := frac_r (a := chS P bk.1 bk.2.1 bk.2.2.2.1 bk.2.2.2.2 n x a (2 ^ n)) (d := 10 ^ n) (by omega) h10.1 (by omega) v3
          obtain ⟨V, hV⟩ : ∃ V, mX4_fraction (nI (chS P bk.1 bk.2.1 bk.2.2.2.1 bk.2.2.2.2 n x a (2 ^ n))) (nI (10 ^ n)) v3 = some V := ⟨_, ev⟩
          refine ⟨V, (V, g'), ?_, ?_, rfl, P, bk, hs, k0, k1, sn, t, len, nx, hW, hC, hR⟩
          · unfold mX3_chance
            rw [if_neg c0, if_neg c1, if_neg c2, if_pos c3]
            exact ec.trans (ef.trans hV)
          · unfold mX4_chance
            rw [hi1', Option.bind_some, if_pos rfl, hi2', Option.bind_some, if_pos rfl, m2, hn, L1, pk_sub (by omega), show n + 1 - 1 = n by omega]
            refine er.trans ?_
            rw [hV, Option.bind_some]
        · refine ⟨-2, (-2, s_m_trial), by unfold mX3_chance; rw [if_neg c0, if_neg c1, if_neg c2, if_neg c3], ?_, rfl, h⟩
          unfold mX4_chance
          rw [hi1', Option.bind_some, if_pos rfl, hi2, decide_eq_false (fun z => c3 z.2)]
          rfl
end L2
