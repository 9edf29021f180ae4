/-! the words of the document as plain functions -/
abbrev GN : Type := Nat × Nat × Nat × Nat × Nat
abbrev RN : Type := Nat × Nat × Nat
abbrev PN : Type := Nat × Nat × Nat × Nat
abbrev SN : Type := Nat × Nat × Nat × Nat
abbrev Bk : Type := List GN × List RN × Int32 × Int32 × Nat
def gA (G : List GN) (i : Nat) : GN := G.getD i (0, 0, 0, 0, 0)
def rA (R : List RN) (i : Nat) : RN := R.getD i (0, 0, 0)
def pA (P : List PN) (i : Nat) : PN := P.getD i (0, 0, 0, 0)
def qA (S : List SN) (i : Nat) : SN := S.getD i (0, 0, 0, 0)
def rgOk (s l : Nat) : Prop := l < 6 ∧ s < 32 ∧ s % (32 / 2 ^ l) = 0
def wi (s l s' l' : Nat) : Bool := decide (l' ≤ l) && decide (s / (32 / 2 ^ l') = s' / (32 / 2 ^ l'))
theorem rg_dec {s l : Nat} (h : rgOk s l) : ∃ a, a < 2 ^ l ∧ s = a * (32 / 2 ^ l) := by
  obtain ⟨h1, h2, h3⟩ := h
  refine ⟨s / (32 / 2 ^ l), ?_, ?_⟩
  · rcases (show l = 0 ∨ l = 1 ∨ l = 2 ∨ l = 3 ∨ l = 4 ∨ l = 5 by omega) with rfl | rfl | rfl | rfl | rfl | rfl <;> omega
  · rcases (show l = 0 ∨ l = 1 ∨ l = 2 ∨ l = 3 ∨ l = 4 ∨ l = 5 by omega) with rfl | rfl | rfl | rfl | rfl | rfl <;> omega
theorem wi_dec : ∀ l, l < 6 → ∀ k, k < 6 → ∀ a, a < 2 ^ l → ∀ b, b < 2 ^ k → decide ((cov (a * (32 / 2 ^ l)) l &&& (cov (b * (32 / 2 ^ k)) k ^^^ (-1 : Int32))) = 0) = wi (a * (32 / 2 ^ l)) l (b * (32 / 2 ^ k)) k := by decide +kernel
theorem wi_c {s l s' l' : Nat} (h : rgOk s l) (h' : rgOk s' l') : mX3_isWithin (cov s l) (cov s' l') = some (wi s l s' l') := by
  obtain ⟨a, ha, rfl⟩ := rg_dec h
  obtain ⟨b, hb, rfl⟩ := rg_dec h'
  have e := wi_dec l h.1 l' h'.1 a ha b hb
  unfold mX3_isWithin
  rw [← e]
  by_cases q : (cov (a * (32 / 2 ^ l)) l &&& (cov (b * (32 / 2 ^ l')) l' ^^^ (-1 : Int32))) = 0
  · rw [if_pos q, decide_eq_true q]
  · rw [if_neg q, decide_eq_false q]
theorem meet_dec : ∀ l, l < 6 → ∀ k, k < 6 → ∀ a, a < 2 ^ l → ∀ b, b < 2 ^ k → decide ((cov (a * (32 / 2 ^ l)) l &&& cov (b * (32 / 2 ^ k)) k) = 0) = !(wi (a * (32 / 2 ^ l)) l (b * (32 / 2 ^ k)) k || wi (b * (32 / 2 ^ k)) k (a * (32 / 2 ^ l)) l) := by decide +kernel
theorem meet_c {s l s' l' : Nat} (h : rgOk s l) (h' : rgOk s' l') : decide ((cov s l &&& cov s' l') = 0) = !(wi s l s' l' || wi s' l' s l) := by
  obtain ⟨a, ha, rfl⟩ := rg_dec h
  obtain ⟨b, hb, rfl⟩ := rg_dec h'
  exact meet_dec l h.1 l' h'.1 a ha b hb
theorem covb_dec : ∀ l, l < 6 → ∀ a, a < 2 ^ l → ∀ p, p < 32 → bi (cov (a * (32 / 2 ^ l)) l) p = wi p 5 (a * (32 / 2 ^ l)) l := by decide +kernel
theorem covb {s l p : Nat} (h : rgOk s l) (hp : p < 32) : bi (cov s l) p = wi p 5 s l := by
  obtain ⟨a, ha, rfl⟩ := rg_dec h
  exact covb_dec l h.1 a ha p hp
theorem sz_dec : ∀ l, l < 6 → (32 : Int32) >>> (nI l &&& 31) = nI (32 / 2 ^ l) := by decide +kernel
theorem sz_ok {l : Nat} (h : l < 6) : mX4_sizeOf (nI l) = some (nI (32 / 2 ^ l)) := by
  unfold mX4_sizeOf
  rw [sz_dec l h]
theorem sz_pos {l : Nat} (h : l < 6) : 0 < 32 / 2 ^ l ∧ 32 / 2 ^ l ≤ 32 := by
  rcases (show l = 0 ∨ l = 1 ∨ l = 2 ∨ l = 3 ∨ l = 4 ∨ l = 5 by omega) with rfl | rfl | rfl | rfl | rfl | rfl <;> decide
theorem dv_ok {α : Type} {a d : Nat} {k : Int32 → Option α} (ha : a < 2 ^ 31) (h0 : 0 < d) (hd : d < 2 ^ 31) : dv (nI a) (nI d) k = k (nI (a / d)) := by
  unfold dv
  rw [if_neg (nI_ne0 h0 hd), pk_div ha h0 hd]
theorem rmd_ok {α : Type} {a d : Nat} {k : Int32 → Option α} (ha : a < 2 ^ 31) (h0 : 0 < d) (hd : d < 2 ^ 31) : rmd (nI a) (nI d) k = k (nI (a % d)) := by
  unfold rmd
  rw [if_neg (nI_ne0 h0 hd), pk_rem ha h0 hd]
theorem wi_r {s l s' l' : Nat} (hs : s < 32) (hl : l < 6) (hs' : s' < 32) (hl' : l' < 6) : mX4_isWithin (nI s) (nI l) (nI s') (nI l') = some (wi s l s' l') := by
  have hz := sz_pos hl'
  unfold mX4_isWithin wi
  by_cases q : l' ≤ l
  · rw [if_neg (nI_nlt q (by omega)), sz_ok hl']
    simp only [Option.bind_some]
    rw [dv_ok (by omega) hz.1 (by omega), dv_ok (by omega) hz.1 (by omega), decide_eq_true q, Bool.true_and]
    have b1 := Nat.div_le_self s (32 / 2 ^ l')
    have b2 := Nat.div_le_self s' (32 / 2 ^ l')
    by_cases r : s / (32 / 2 ^ l') = s' / (32 / 2 ^ l')
    · rw [if_pos (by rw [r]), decide_eq_true r]
    · rw [if_neg (fun e => r ((nI_eq (by omega) (by omega)).mp e)), decide_eq_false r]
  · rw [if_pos (nI_lt (by omega) (by omega)), decide_eq_false q, Bool.false_and]
/-! the arguments that a caller hands over -/
theorem in_ok (a b c : Int64) : mX4_in a b c = some (decide (b ≤ a ∧ a ≤ c)) := by
  unfold mX4_in
  by_cases h1 : a < b
  · rw [if_pos ((lg_cmp_lt a b).mpr h1), decide_eq_false (fun q => Int64.not_le.mpr h1 q.1)]
  · rw [if_neg (fun q => h1 ((lg_cmp_lt a b).mp q))]
    by_cases h2 : c < a
    · rw [if_pos ((lg_cmp_gt a c).mpr h2), decide_eq_false (fun q => Int64.not_le.mpr h2 q.2)]
    · rw [if_neg (fun q => h2 ((lg_cmp_gt a c).mp q)), decide_eq_true ⟨Int64.not_lt.mp h1, Int64.not_lt.mp h2⟩]
theorem wide_le (a b : Int32) : a.toInt64 ≤ b.toInt64 ↔ a ≤ b := by
  rw [Int64.le_iff_toInt_le, Int32.le_iff_toInt_le, Int32.toInt_toInt64, Int32.toInt_toInt64]
/-- 'in' over ints: v of lo .. hi -/
theorem in_i (v lo hi : Int32) : mX4_in v.toInt64 lo.toInt64 hi.toInt64 = some (decide (lo ≤ v ∧ v ≤ hi)) := by
  rw [in_ok]
  simp only [wide_le]
/-- an int of 0 .. n - 1, or none of them -/
theorem isK (v a b : Int32) {n : Nat} (ea : a = nI n) (eb : b = nI (n - 1)) (hn : n < 2 ^ 31) (h0 : 0 < n) : (∃ i, i < n ∧ v = nI i ∧ ¬ v < 0 ∧ ¬ a ≤ v ∧ v ≤ b ∧ (0 : Int32) ≤ v) ∨ ((v < 0 ∨ a ≤ v) ∧ ¬ ((0 : Int32) ≤ v ∧ v ≤ b)) := by
  subst ea; subst eb
  by_cases h : v < 0
  · exact Or.inr ⟨Or.inl h, fun q => Int32.not_le.mpr h q.1⟩
  · obtain ⟨j, hj, rfl⟩ := nI_of h
    by_cases q : j < n
    · exact Or.inl ⟨j, q, rfl, h, nI_ge q hn, nI_le (by omega) (by omega), Int32.not_lt.mp h⟩
    · exact Or.inr ⟨Or.inr (nI_le (by omega) hj), fun r => nI_ge (a := n - 1) (b := j) (by omega) hj r.2⟩
theorem org_any (v : Int32) : (∃ o, o < 6 ∧ v = nI o ∧ mX3_isOrigin v = some true ∧ mX4_isOrigin v = some true) ∨ (mX3_isOrigin v = some false ∧ mX4_isOrigin v = some false) := by
  have hi := in_i v 0 5
  have e4 : mX4_isOrigin v = some (decide ((0 : Int32) ≤ v ∧ v ≤ 5)) := by
    unfold mX4_isOrigin
    rw [show (0 : Int64) = (0 : Int32).toInt64 from rfl, show (5 : Int64) = (5 : Int32).toInt64 from rfl, hi]
    rfl
  rcases isK v 6 5 (n := 6) rfl rfl (by decide) (by decide) with ⟨o, ho, rfl, h1, h2, h3, h4⟩ | ⟨h1, h2⟩
  · refine Or.inl ⟨o, ho, rfl, ?_, ?_⟩
    · unfold mX3_isOrigin
      rw [if_neg h1, if_neg h2]
    · rw [e4, decide_eq_true ⟨h4, h3⟩]
  · refine Or.inr ⟨?_, ?_⟩
    · unfold mX3_isOrigin
      by_cases q : v < 0
      · rw [if_pos q]
      · rw [if_neg q, if_pos (h1.resolve_left q)]
    · rw [e4, decide_eq_false h2]
theorem law_any (v : Int32) : (∃ o, o < 4 ∧ v = nI o ∧ mX3_isLaw v = some true ∧ mX4_isLaw v = some true) ∨ (mX3_isLaw v = some false ∧ mX4_isLaw v = some false) := by
  have hi := in_i v 0 3
  have e4 : mX4_isLaw v = some (decide ((0 : Int32) ≤ v ∧ v ≤ 3)) := by
    unfold mX4_isLaw
    rw [show (0 : Int64) = (0 : Int32).toInt64 from rfl, show (3 : Int64) = (3 : Int32).toInt64 from rfl, hi]
    rfl
  rcases isK v 4 3 (n := 4) rfl rfl (by decide) (by decide) with ⟨o, ho, rfl, h1, h2, h3, h4⟩ | ⟨h1, h2⟩
  · refine Or.inl ⟨o, ho, rfl, ?_, ?_⟩
    · unfold mX3_isLaw
      rw [if_neg h1, if_neg h2]
    · rw [e4, decide_eq_true ⟨h4, h3⟩]
  · refine Or.inr ⟨?_, ?_⟩
    · unfold mX3_isLaw
      by_cases q : v < 0
      · rw [if_pos q]
      · rw [if_neg q, if_pos (h1.resolve_left q)]
    · rw [e4, decide_eq_false h2]
theorem place_any (v : Int32) : (∃ o, o < 32 ∧ v = nI o ∧ mX3_isPlace v = some true ∧ mX4_in v.toInt64 (0 : Int64) (31 : Int64) = some true) ∨ (mX3_isPlace v = some false ∧ mX4_in v.toInt64 (0 : Int64) (31 : Int64) = some false) := by
  have hi := in_i v 0 31
  have e4 : mX4_in v.toInt64 (0 : Int64) (31 : Int64) = some (decide ((0 : Int32) ≤ v ∧ v ≤ 31)) := hi
  rcases isK v 32 31 (n := 32) rfl rfl (by decide) (by decide) with ⟨o, ho, rfl, h1, h2, h3, h4⟩ | ⟨h1, h2⟩
  · refine Or.inl ⟨o, ho, rfl, ?_, ?_⟩
    · unfold mX3_isPlace
      rw [if_neg h1, if_neg h2]
    · rw [e4, decide_eq_true ⟨h4, h3⟩]
  · refine Or.inr ⟨?_, ?_⟩
    · unfold mX3_isPlace
      by_cases q : v < 0
      · rw [if_pos q]
      · rw [if_neg q, if_pos (h1.resolve_left q)]
    · rw [e4, decide_eq_false h2]
theorem left_dec : ∀ l, l < 6 → ∀ s, s < 32 → nI s &&& ((32 : Int32) >>> (nI l &&& 31)) - (1 : Int32) = nI (s % (32 / 2 ^ l)) := by decide +kernel
theorem left_ok {s l : Nat} (hs : s < 32) (hl : l < 6) : mX3_leftBySize (nI s) (nI l) = some (nI (s % (32 / 2 ^ l))) := by
  unfold mX3_leftBySize
  rw [left_dec l hl s hs]
theorem rng_any (v w : Int32) : (∃ s l, rgOk s l ∧ v = nI s ∧ w = nI l ∧ mX3_isRange v w = some true ∧ mX4_isRange v w = some true) ∨ (mX3_isRange v w = some false ∧ mX4_isRange v w = some false) := by
  have hi : mX4_in w.toInt64 (0 : Int64) (5 : Int64) = some (decide ((0 : Int32) ≤ w ∧ w ≤ 5)) := in_i w 0 5
  rcases place_any v with ⟨s, hs, rfl, p1, p2⟩ | ⟨p1, p2⟩
  · rcases isK w 6 5 (n := 6) rfl rfl (by decide) (by decide) with ⟨l, hl, rfl, h1, h2, h3, h4⟩ | ⟨h1, h2⟩
    · have hz := sz_pos hl
      have hm := Nat.mod_lt s hz.1
      have e3 : mX3_isRange (nI s) (nI l) = some (decide (s % (32 / 2 ^ l) = 0)) := by
        unfold mX3_isRange
        rw [p1]
        simp only [Option.bind_some, if_true]
        rw [if_neg h1, if_neg (fun q => Int32.not_lt.mpr h3 q), left_ok hs hl]
        simp only [Option.bind_some]
        by_cases q : s % (32 / 2 ^ l) = 0
        · rw [if_pos (by rw [q]; rfl), decide_eq_true q]
        · rw [if_neg (nI_ne0 (by omega) (by omega)), decide_eq_false q]
      have e4 : mX4_isRange (nI s) (nI l) = some (decide (s % (32 / 2 ^ l) = 0)) := by
        unfold mX4_isRange
        rw [hi, p2, sz_ok hl, decide_eq_true ⟨h4, h3⟩]
        simp only [Option.bind_some, if_true]
        rw [rmd_ok (by omega) hz.1 (by omega)]
        by_cases q : s % (32 / 2 ^ l) = 0
        · rw [if_pos (by rw [q]; rfl), decide_eq_true q]
        · rw [if_neg (nI_ne0 (by omega) (by omega)), decide_eq_false q]
      by_cases q : s % (32 / 2 ^ l) = 0
      · exact Or.inl ⟨s, l, ⟨hl, hs, q⟩, rfl, rfl, by rw [e3, decide_eq_true q], by rw [e4, decide_eq_true q]⟩
      · exact Or.inr ⟨by rw [e3, decide_eq_false q], by rw [e4, decide_eq_false q]⟩
    · refine Or.inr ⟨?_, ?_⟩
      · unfold mX3_isRange
        rw [p1]
        simp only [Option.bind_some, if_true]
        by_cases q : w < 0
        · rw [if_pos q]
        · rw [if_neg q, if_pos]
          have := h1.resolve_left q
          exact Int32.not_le.mp (fun r => h2 ⟨Int32.not_lt.mp q, r⟩)
      · unfold mX4_isRange
        rw [hi, decide_eq_false h2]
        simp only [Option.bind_some]
        rfl
  · refine Or.inr ⟨?_, ?_⟩
    · unfold mX3_isRange
      rw [p1]
      simp only [Option.bind_some]
      rfl
    · unfold mX4_isRange
      rw [hi, p2]
      simp only [Option.bind_some]
      by_cases q : decide ((0 : Int32) ≤ w ∧ w ≤ 5) = true
      · rw [if_pos q]; rfl
      · rw [if_neg q]
/-! some, the first, the best of some places -/
def anyB (p : Nat → Bool) : Nat → Bool
  | 0 => false
  | n + 1 => anyB p n || p n
theorem anyB_s (p : Nat → Bool) (n : Nat) : anyB p (n + 1) = (anyB p n || p n) := rfl
theorem anyB_t {p : Nat → Bool} : ∀ {n i : Nat}, i < n → p i = true → anyB p n = true
  | n + 1, i, h, hp => by
    rw [anyB_s]
    by_cases q : i = n
    · subst q; rw [hp, Bool.or_true]
    · rw [anyB_t (show i < n by omega) hp, Bool.true_or]
theorem anyB_e {p : Nat → Bool} : ∀ {n : Nat}, anyB p n = true → ∃ i, i < n ∧ p i = true
  | n + 1, h => by
    rw [anyB_s, Bool.or_eq_true] at h
    rcases h with h | h
    · obtain ⟨i, hi, hp⟩ := anyB_e h
      exact ⟨i, by omega, hp⟩
    · exact ⟨n, by omega, h⟩
theorem anyB_cong {p q : Nat → Bool} : ∀ {n : Nat}, (∀ k, k < n → p k = q k) → anyB p n = anyB q n
  | 0, _ => rfl
  | n + 1, h => by rw [anyB_s, anyB_s, anyB_cong (fun k hk => h k (by omega)), h n (by omega)]
/-- how often -/
def cnt (p : Nat → Bool) : Nat → Nat
  | 0 => 0
  | n + 1 => cnt p n + (if p n = true then 1 else 0)
theorem cnt_s (p : Nat → Bool) (n : Nat) : cnt p (n + 1) = cnt p n + (if p n = true then 1 else 0) := rfl
theorem cnt_le (p : Nat → Bool) : ∀ n, cnt p n ≤ n
  | 0 => Nat.le_refl 0
  | n + 1 => by
    have := cnt_le p n
    rw [cnt_s]
    split <;> omega
theorem cnt_cong {p q : Nat → Bool} : ∀ {n : Nat}, (∀ k, k < n → p k = q k) → cnt p n = cnt q n
  | 0, _ => rfl
  | n + 1, h => by rw [cnt_s, cnt_s, cnt_cong (fun k hk => h k (by omega)), h n (by omega)]
/-! papers that stand: by steps up to the first one -/
def stn (pa : Nat → Nat) (ok : Nat → Bool) : Nat → Nat → Bool
  | 0, _ => true
  | f + 1, p => if p = 0 then true else ok p && stn pa ok f (pa p)
theorem stn_s (pa : Nat → Nat) (ok : Nat → Bool) (f p : Nat) : stn pa ok (f + 1) p = if p = 0 then true else ok p && stn pa ok f (pa p) := rfl
theorem stn_0 (pa : Nat → Nat) (ok : Nat → Bool) (f : Nat) : stn pa ok f 0 = true := by
  cases f with
  | zero => rfl
  | succ f => rw [stn_s, if_pos rfl]
theorem stn_fu {pa : Nat → Nat} {ok : Nat → Bool} {N : Nat} (h : ∀ q, 0 < q → q < N → pa q < q) : ∀ (f g p : Nat), p < N → p ≤ f → p ≤ g → stn pa ok f p = stn pa ok g p := by
  intro f
  induction f with
  | zero =>
    intro g p hp h1 h2
    have : p = 0 := by omega
    subst this
    rw [stn_0, stn_0]
  | succ f ih =>
    intro g p hp h1 h2
    by_cases q : p = 0
    · subst q; rw [stn_0, stn_0]
    · cases g with
      | zero => omega
      | succ g =>
        have := h p (by omega) hp
        rw [stn_s, stn_s, if_neg q, if_neg q, ih g (pa p) (by omega) (by omega) (by omega)]
def okP (P : List PN) (gone : Int32) (day : Nat) (p : Nat) : Bool :=
  !bi gone p && decide (day ≤ (pA P p).2.2.2) && wi (pA P p).2.1 (pA P p).2.2.1 (pA P (pA P p).1).2.1 (pA P (pA P p).1).2.2.1
def stB (P : List PN) (gone : Int32) (day : Nat) (p : Nat) : Bool := stn (fun q => (pA P q).1) (okP P gone day) p p
/-- papers as THE TREE has them -/
def PLok (P : List PN) : Prop := 1 ≤ P.length ∧ P.length ≤ 6 ∧ pA P 0 = (0, 0, 0, 0) ∧ ∀ i, 0 < i → i < P.length → (pA P i).1 < i ∧ rgOk (pA P i).2.1 (pA P i).2.2.1 ∧ (pA P i).2.2.2 ≤ 9
theorem PLok.rg {P : List PN} (h : PLok P) {i : Nat} (hi : i < P.length) : rgOk (pA P i).2.1 (pA P i).2.2.1 := by
  by_cases q : i = 0
  · subst q; rw [h.2.2.1]; exact ⟨by decide, by decide, by decide⟩
  · exact (h.2.2.2 i (by omega) hi).2.1
theorem stB_0 (P : List PN) (gone : Int32) (day : Nat) : stB P gone day 0 = true := rfl
theorem stB_s {P : List PN} (h : PLok P) (gone : Int32) (day : Nat) {p : Nat} (h0 : 0 < p) (hp : p < P.length) : stB P gone day p = (okP P gone day p && stB P gone day (pA P p).1) := by
  have hpa := (h.2.2.2 p h0 hp).1
  cases p with
  | zero => omega
  | succ p =>
    show stn _ _ (p + 1) (p + 1) = _
    rw [stn_s, if_neg (by omega)]
    congr 1
    exact stn_fu (N := P.length) (fun q q1 q2 => (h.2.2.2 q q1 q2).1) p _ _ (by omega) (by omega) (Nat.le_refl _)
/-- a grant counts, by the papers that stand -/
def cnB (P : List PN) (st : Nat → Bool) (aside : Int32) (g : GN) : Bool :=
  decide (g.1 = 9) || (st g.1 && wi g.2.2.1 g.2.2.2.1 (pA P g.1).2.1 (pA P g.1).2.2.1 && !bi aside g.2.1)
def gOk (np : Nat) (g : GN) : Prop := (g.1 < np ∨ g.1 = 9) ∧ g.2.1 < 6 ∧ rgOk g.2.2.1 g.2.2.2.1 ∧ g.2.2.2.1 ≤ g.2.2.2.2 ∧ g.2.2.2.2 ≤ 5
def rOk (r : RN) : Prop := rgOk r.1 r.2.1 ∧ r.2.2 < 6
/-- the state of a range with an origin, by the grants of a set -/
def winB (G : List GN) (s l : Nat) (i : Nat) : Bool := wi s l (gA G i).2.2.1 (gA G i).2.2.2.1
def rgtB (G : List GN) (s l o : Nat) (i : Nat) : Bool := winB G s l i && decide ((gA G i).2.1 = o) && decide (l ≤ (gA G i).2.2.2.2)
def stS (c : Nat → Bool) (G : List GN) (s l o : Nat) (n : Nat) : Nat :=
  if anyB (fun i => c i && rgtB G s l o i) n = true then 2 else if anyB (fun i => c i && winB G s l i) n = true then 0 else 1
theorem stS_lt (c : Nat → Bool) (G : List GN) (s l o n : Nat) : stS c G s l o n < 3 := by
  unfold stS
  split
  · decide
  · split <;> decide
theorem stS_cong {c d : Nat → Bool} (G : List GN) (s l o : Nat) {n : Nat} (h : ∀ k, k < n → c k = d k) : stS c G s l o n = stS d G s l o n := by
  unfold stS
  rw [anyB_cong (q := fun i => d i && rgtB G s l o i) (fun k hk => by rw [h k hk]), anyB_cong (p := fun i => c i && winB G s l i) (q := fun i => d i && winB G s l i) (fun k hk => by rw [h k hk])]
