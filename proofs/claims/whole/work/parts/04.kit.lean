theorem inlX0 : ∀ w ∈ wsX00, w ∈ wsL_law := fun _ h => List.mem_append_left _ (List.mem_append_left _ (List.mem_append_right _ h))
theorem inlX1 : ∀ w ∈ wsX10, w ∈ wsL_law := fun _ h => List.mem_append_left _ (List.mem_append_left _ (List.mem_append_left _ (List.mem_append_right _ h)))
theorem inlX2 : ∀ w ∈ wsX20, w ∈ wsL_law := fun _ h => List.mem_append_left _ (List.mem_append_right _ h)
theorem inlX3 : ∀ w ∈ wsX30, w ∈ wsL_law := fun _ h => List.mem_append_left _ (List.mem_append_left _ (List.mem_append_left _ (List.mem_append_left _ (List.mem_append_left _ (List.mem_append_right _ h)))))
theorem inlX4 : ∀ w ∈ wsX40, w ∈ wsL_law := fun _ h => List.mem_append_left _ (List.mem_append_left _ (List.mem_append_left _ (List.mem_append_left _ (List.mem_append_right _ h))))
/-! words: one list for all methods -/
theorem goodU_b : wsL_law.all goodWord = true := by decide +kernel
theorem goodU (ws : List Cond) (h : ∀ w ∈ ws, w ∈ wsL_law) : GoodIn wsL_law ws := fun w hw => ⟨h w hw, good_of_word (List.all_eq_true.mp goodU_b w (h w hw))⟩
/-! what every method takes of the machine: classes, arrays, private links of nest mates -/
def NWs (U : State) : Prop := va_Nw (.methodLinkNest RX3 44 yX2_init RX3) U ∧ va_Nw (.methodLinkNest RX1 39 yX3_coverOf RX3) U ∧ va_Nw (.methodLinkNest RX2 78 yX3_leftBySize RX3) U ∧ va_Nw (.methodLinkNest RX0 47 yX3_bit RX3) U ∧ va_Nw (.methodLinkNest RX0 50 yX3_isWithin RX3) U ∧ va_Nw (.methodLinkNest RX0 109 yX3_isOrigin RX3) U ∧ va_Nw (.methodLinkNest RX0 97 yX3_isLaw RX3) U ∧ va_Nw (.methodLinkNest RX0 100 yX3_isPlace RX3) U
def EV (D : va_G) (cI cC cZ : ClassId) (U : State) : Prop := va_K D vwCl [(cI, .int), (cC, .char), (cZ, .boolean)] U ∧ NWs U
theorem EV.warm {D : va_G} {cI cC cZ : ClassId} {s U : State} (hW : s.WarmedH U.vm) (h : EV D cI cC cZ s) : EV D cI cC cZ U := by
  obtain ⟨hK, h1, h2, h3, h4, h5, h6, h7, h8⟩ := h
  exact ⟨va_K.moved hW.alike hK, va_Nw.warmM hW h1, va_Nw.warmM hW h2, va_Nw.warmM hW h3, va_Nw.warmM hW h4, va_Nw.warmM hW h5, va_Nw.warmM hW h6, va_Nw.warmM hW h7, va_Nw.warmM hW h8⟩
theorem EV.calling {D : va_G} {cI cC cZ : ClassId} {U : State} {g : JFrame} {mk : MethodId} {a : Array Value} (h : EV D cI cC cZ U) : EV D cI cC cZ (U.calling g mk a) := by
  obtain ⟨hK, h1, h2, h3, h4, h5, h6, h7, h8⟩ := h
  exact ⟨va_K.moved (u := U) (U := U.calling g mk a) (Vm.Alike.refl U.vm) hK, va_Nw.same rfl rfl h1, va_Nw.same rfl rfl h2, va_Nw.same rfl rfl h3, va_Nw.same rfl rfl h4, va_Nw.same rfl rfl h5, va_Nw.same rfl rfl h6, va_Nw.same rfl rfl h7, va_Nw.same rfl rfl h8⟩
/-! contracts: of a method that changes nothing, and of one that changes its world's cells -/
def RM (fr lo : Nat) : Room := { frames := fr, cells := 0, slots := 0, locals := lo }
def RdP (D : va_G) (cI cC cZ : ClassId) (w : va_W) (as : List Value) : Array Value → State → Prop := va_Pc as (fun U => EV D cI cC cZ U ∧ va_P D vwCl w U.heap)
def RdQ (v : Option Value) : Array Value → State → Outcome → State → Prop := fun _ st oc t => oc = .returned v ∧ t.heap = st.heap
def Rd (l : Launch) (y : MethodName) (b : ByteArray) (n : Nat) (ret : Option FieldType) (fr lo : Nat) (D : va_G) (cI cC cZ : ClassId) (w : va_W) (as : List Value) (v : Option Value) : Prop :=
  Met l y (.code y b n ret :: wsL_law) (RM fr lo) (RdP D cI cC cZ w as) (RdQ v) 0 0 (fun _ => False)
def MuP (D : va_G) (cI cC cZ : ClassId) (w : va_W) (sz : Nat) (as : List Value) : Array Value → State → Prop := va_Pc as (fun U => U.heap.size = sz ∧ EV D cI cC cZ U ∧ va_P D vwCl w U.heap ∧ va_D (fun _ => True) w)
def MuQ (D : va_G) (w w' : va_W) (sz : Nat) (v : Option Value) : Array Value → State → Outcome → State → Prop := fun _ st oc t => oc = .returned v ∧ va_P D vwCl w' t.heap ∧ va_F (va_A w sz) st t
def Mu (l : Launch) (y : MethodName) (b : ByteArray) (n : Nat) (ret : Option FieldType) (fr lo : Nat) (D : va_G) (cI cC cZ : ClassId) (w w' : va_W) (as : List Value) (v : Option Value) : Prop :=
  ∀ sz : Nat, Met l y (.code y b n ret :: wsL_law) (RM fr lo) (MuP D cI cC cZ w sz as) (MuQ D w w' sz v) 0 0 (va_A w sz)
theorem RdP.blind {D : va_G} {cI cC cZ : ClassId} {w : va_W} {as : List Value} : FrameBlind (RdP D cI cC cZ w as) := fun _ _ _ _ q => ⟨q.1, EV.calling q.2.1, q.2.2⟩
theorem MuP.blind {D : va_G} {cI cC cZ : ClassId} {w : va_W} {sz : Nat} {as : List Value} : FrameBlind (MuP D cI cC cZ w sz as) := fun _ _ _ _ q => ⟨q.1, q.2.1, EV.calling q.2.2.1, q.2.2.2⟩
/-! a call's words -/
def dOk (y : MethodName) (k : Nat) : Prop := y.cls ≠ "java/lang/invoke/MethodHandle" ∧ y.cls ≠ "java/lang/invoke/VarHandle" ∧ (parseMethodDescriptor y.desc).map (fun d => d.parameters.length) = some k
def LkV (own : String) (idx : Nat) (C : String) (y : MethodName) (b : ByteArray) (n : Nat) (ret : Option FieldType) (k : Nat) : Prop :=
  Cond.methodLink own idx y ∈ wsL_law ∧ Cond.instanceMethod y ∈ wsL_law ∧ Cond.selects C y y ∈ wsL_law ∧ Cond.initialized y.cls ∈ wsL_law ∧ Cond.code y b n ret ∈ wsL_law ∧ dOk y k
def LkS (own : String) (idx : Nat) (y : MethodName) (b : ByteArray) (n : Nat) (ret : Option FieldType) (k : Nat) : Prop :=
  Cond.methodLink own idx y ∈ wsL_law ∧ Cond.static y ∈ wsL_law ∧ Cond.initialized y.cls ∈ wsL_law ∧ Cond.code y b n ret ∈ wsL_law ∧ dOk y k
def LkN (y : MethodName) (b : ByteArray) (n : Nat) (ret : Option FieldType) (k : Nat) : Prop :=
  Cond.static y ∈ wsL_law ∧ Cond.initialized y.cls ∈ wsL_law ∧ Cond.code y b n ret ∈ wsL_law ∧ dOk y k
theorem consU {x : Cond} (hx : x ∈ wsL_law) : ∀ w ∈ x :: wsL_law, w ∈ wsL_law := fun _ h => (List.mem_cons.mp h).elim (fun q => q ▸ hx) id
section KIT
variable {p : Program} {l : Launch} {e : Env} {R : Room} {s : State} {m : MethodId} {args : Array Value} {below : List Frame} {meth : Method} {c : Code} {H H0 : Heap} {locs : List Loc} {cells slots : Nat} {Q : State → Prop}
variable {D : va_G} {cI cC cZ : ClassId} {cc b : ByteArray} {nL n k pc fr lo idx o ci N : Nat} {own C : String} {T : u_T} {y : MethodName} {ret : Option FieldType} {w w' ws nw : va_W} {As rest st st2 : List Value} {v : Option Value} {ls : Array Slot} {fs : List Value} {A : Nat → Prop}
theorem cbU (hU : ∀ w ∈ wsL_law, w.before args s = true) (hl : Cond.methodLink own idx y ∈ wsL_law) (hi : Cond.initialized y.cls ∈ wsL_law) (hc : Cond.code y b n ret ∈ wsL_law) (hd : dOk y k) (hR : fr + 1 ≤ R.frames ∧ 8 + (n + 11) + lo ≤ R.locals) :
    CallB R s args own idx y b n ret (.code y b n ret :: wsL_law) (RM fr lo) 0 0 k :=
  callB_of k hU (goodU _ (consU hc)) rfl rfl rfl (hU _ hi) (hU _ hl) hd hR
theorem cnU {host : String} (hU : ∀ w ∈ wsL_law, w.before args s = true) (hl : va_Nw (.methodLinkNest own idx y host) s) (hi : Cond.initialized y.cls ∈ wsL_law) (hc : Cond.code y b n ret ∈ wsL_law) (hd : dOk y k) (hR : fr + 1 ≤ R.frames ∧ 8 + (n + 11) + lo ≤ R.locals) :
    va_CN R s args own idx y host b n ret (.code y b n ret :: wsL_law) (RM fr lo) 0 0 k :=
  va_cnB k hU (goodU _ (consU hc)) rfl rfl rfl hl (hU _ hi) hd hR
/-- behind a call that changed nothing -/
theorem rdGo {As0 : List Value} (hr : va_Run p l e R s m args below meth c H locs cells slots 0 0 (F0 m pc ls st) rest (RdQ v As0.toArray) (fun _ => False)) (h2 : v.toList ++ rest = st2)
    (kk : W p l e R s m args below meth c H locs cells slots Q (F0 m (pc + 3) ls st2)) : W p l e R s m args below meth c H locs cells slots Q (F0 m pc ls st) := by
  intro T hT X
  obtain ⟨v', st₀, t, T', L, h0, X', hL, e1, -, ⟨hv, hh⟩, sg⟩ := hr T hT X
  cases hv
  subst h2
  obtain ⟨t2, a1, b1⟩ := kk T' (by rw [e1, hh, h0]) (Stand.forget X' (fun q h => (hL q h).elim))
  exact ⟨t2, sg t2 a1, b1⟩
theorem rdV (S : CallFix p m c cc nL s args wsL_law own) (hE : EV D cI cC cZ s) (hM : Rd l y b n ret fr lo D cI cC cZ w (.ref o :: As) v) (L : LkV own idx C y b n ret k) (hP : va_P D vwCl w H) (hci : vwCl[ci]? = some (C, T, N)) (h0 : w[0]? = some (o, .inr (ci, fs)))
    (hk : As.length = k) (hsz : ls.size = nL) (hst : st = As.reverse ++ .ref o :: rest) (hrm : (rest.map fun v => v.category).sum ≤ 8) (hR : fr + 1 ≤ R.frames ∧ 8 + (n + 11) + lo ≤ R.locals) (hdg : decode cc pc = .ok (.invokevirtual idx, 3)) (hc : cells ≤ R.cells ∧ slots ≤ R.slots) (h2 : v.toList ++ rest = st2)
    (kk : W p l e R s m args below meth c H locs cells slots Q (F0 m (pc + 3) ls st2)) : W p l e R s m args below meth c H locs cells slots Q (F0 m pc ls st) :=
  rdGo (As0 := .ref o :: As) (va_runV (As := As) (rest := rest) S hM ⟨cbU S.2.2.2.2 L.1 L.2.2.2.1 L.2.2.2.2.1 L.2.2.2.2.2 hR, S.2.2.2.2 _ L.2.1, S.2.2.2.2 _ L.2.2.1⟩
    ⟨RdP.blind, va_recv hE.1 hP hci h0, fun U hU hW => ⟨rfl, EV.warm hW hE, by rw [hU]; exact hP⟩⟩ rfl hk hsz hst (lv_room hrm) hdg hc) h2 kk
theorem rdS (S : CallFix p m c cc nL s args wsL_law own) (hE : EV D cI cC cZ s) (hM : Rd l y b n ret fr lo D cI cC cZ w As v) (L : LkS own idx y b n ret k) (hP : va_P D vwCl w H)
    (hk : As.length = k) (hsz : ls.size = nL) (hst : st = As.reverse ++ rest) (hrm : (rest.map fun v => v.category).sum ≤ 8) (hR : fr + 1 ≤ R.frames ∧ 8 + (n + 11) + lo ≤ R.locals) (hdg : decode cc pc = .ok (.invokestatic idx, 3)) (hc : cells ≤ R.cells ∧ slots ≤ R.slots) (h2 : v.toList ++ rest = st2)
    (kk : W p l e R s m args below meth c H locs cells slots Q (F0 m (pc + 3) ls st2)) : W p l e R s m args below meth c H locs cells slots Q (F0 m pc ls st) :=
  rdGo (As0 := As) (va_runS (As := As) (rest := rest) S hM ⟨cbU S.2.2.2.2 L.1 L.2.2.1 L.2.2.2.1 L.2.2.2.2 hR, S.2.2.2.2 _ L.2.1⟩
    ⟨RdP.blind, fun U hU hW => ⟨rfl, EV.warm hW hE, by rw [hU]; exact hP⟩⟩ rfl hk hsz hst (lv_room hrm) hdg hc) h2 kk
theorem rdN {host : String} (S : CallFix p m c cc nL s args wsL_law own) (hE : EV D cI cC cZ s) (hN : va_Nw (.methodLinkNest own idx y host) s) (hM : Rd l y b n ret fr lo D cI cC cZ w As v) (L : LkN y b n ret k) (hP : va_P D vwCl w H)
    (hk : As.length = k) (hsz : ls.size = nL) (hst : st = As.reverse ++ rest) (hrm : (rest.map fun v => v.category).sum ≤ 8) (hR : fr + 1 ≤ R.frames ∧ 8 + (n + 11) + lo ≤ R.locals) (hdg : decode cc pc = .ok (.invokestatic idx, 3)) (hc : cells ≤ R.cells ∧ slots ≤ R.slots) (h2 : v.toList ++ rest = st2)
    (kk : W p l e R s m args below meth c H locs cells slots Q (F0 m (pc + 3) ls st2)) : W p l e R s m args below meth c H locs cells slots Q (F0 m pc ls st) :=
  rdGo (As0 := As) (va_runSN (As := As) (rest := rest) S hM ⟨cnU S.2.2.2.2 hN L.2.1 L.2.2.1 L.2.2.2 hR, S.2.2.2.2 _ L.1, trivial⟩
    ⟨RdP.blind, fun U hU hW => ⟨rfl, EV.warm hW hE, by rw [hU]; exact hP⟩⟩ rfl hk hsz hst (lv_room hrm) hdg hc) h2 kk
end KIT
/-! a world with some of its cells put anew -/
def setAll (ws : va_W) : List (Nat × (Nat × va_E)) → va_W
  | [] => ws
  | z :: r => setAll (ws.set z.1 z.2) r
theorem setAll_at : ∀ (zs : List (Nat × (Nat × va_E))) (ws : va_W) (k : Nat) (x : Nat × va_E), (setAll ws zs)[k]? = some x → (k, x) ∈ zs ∨ (k ∉ zs.map (·.1) ∧ ws[k]? = some x)
  | [], ws, k, x, h => Or.inr ⟨by simp, h⟩
  | z :: r, ws, k, x, h => by
    rcases setAll_at r (ws.set z.1 z.2) k x h with h1 | ⟨h1, h2⟩
    · exact Or.inl (List.mem_cons_of_mem _ h1)
    · by_cases hz : z.1 = k
      · subst hz
        have hlt := (List.getElem?_eq_some_iff.mp h2).1
        rw [List.length_set] at hlt
        rw [List.getElem?_set_self hlt] at h2
        cases h2
        exact Or.inl List.mem_cons_self
      · rw [List.getElem?_set_ne hz] at h2
        refine Or.inr ⟨?_, h2⟩
        intro hk
        rcases List.mem_cons.mp hk with q | q
        · exact hz q.symm
        · exact h1 q
theorem fr_set {D : va_G} {cl : List vw_C} {A0 : Nat → Prop} {ws w w' nw : va_W} {H H1 : Heap} (hP : va_P D cl ws H) (hD : va_D A0 ws) (is : List Nat) (hC : is.map (fun i => ws[i]?) = w.map some)
    (hk : ∀ q : Nat, q < H.size → ¬ va_A w H.size q → H1[q]? = H[q]?) (hP1 : va_P D cl w' H1) (hz : (is.zip w').map (·.1) = is) (hnw : setAll ws (is.zip w') = nw) (hadr : nw.map (·.1) = ws.map (·.1)) : va_P D cl nw H1 ∧ va_D A0 nw := by
  have ad : ∀ (k : Nat) (x : Nat × va_E), nw[k]? = some x → ∃ y, ws[k]? = some y ∧ y.1 = x.1 := by
    intro k x hx
    have h1 : (nw.map (·.1))[k]? = some x.1 := by rw [List.getElem?_map, hx]; rfl
    rw [hadr, List.getElem?_map] at h1
    cases hy : ws[k]? with
    | none => rw [hy] at h1; cases h1
    | some y => rw [hy] at h1; exact ⟨y, rfl, Option.some.inj h1⟩
  refine ⟨fun k x hx => ?_, fun i j x y hx hy hxy => ?_, fun k x hx => ?_⟩
  · rw [← hnw] at hx
    rcases setAll_at _ _ _ _ hx with h | ⟨h, h2⟩
    · obtain ⟨j, hj⟩ := List.getElem?_of_mem (List.of_mem_zip h).2
      exact hP1 j x hj
    · rw [hz] at h
      have hl := (hP k x h2).lt
      refine (hP k x h2).kept (hk x.1 hl ?_)
      rintro (⟨j, e, hj⟩ | hj)
      · have h3 : (is.map (fun i => ws[i]?))[j]? = some (some (x.1, e)) := by rw [hC, List.getElem?_map, hj]; rfl
        rw [List.getElem?_map] at h3
        cases hi : is[j]? with
        | none => rw [hi] at h3; cases h3
        | some i =>
          rw [hi] at h3
          have h4 := hD.1 k i x (x.1, e) h2 (Option.some.inj h3) rfl
          subst h4
          exact h (List.mem_of_getElem? hi)
      · omega
  · obtain ⟨x', h1, h2⟩ := ad i x hx
    obtain ⟨y', h3, h4⟩ := ad j y hy
    exact hD.1 i j x' y' h1 h3 (by rw [h2, h4, hxy])
  · obtain ⟨x', h1, h2⟩ := ad k x hx
    rw [← h2]
    exact hD.2 k x' h1
section KIT2
variable {p : Program} {l : Launch} {e : Env} {R : Room} {s : State} {m : MethodId} {args : Array Value} {below : List Frame} {meth : Method} {c : Code} {H H0 : Heap} {locs : List Loc} {cells slots : Nat} {Q : State → Prop}
variable {D : va_G} {cI cC cZ : ClassId} {cc b : ByteArray} {nL n k pc fr lo idx o ci N : Nat} {own C : String} {T : u_T} {y : MethodName} {ret : Option FieldType} {w w' ws nw : va_W} {As rest st st2 : List Value} {v : Option Value} {ls : Array Slot} {fs : List Value} {A : Nat → Prop}
/-- behind a call that changed cells -/
theorem muGo {As0 : List Value} (hr : va_Run p l e R s m args below meth c H locs cells slots 0 0 (F0 m pc ls st) rest (MuQ D w w' H.size v As0.toArray) (va_A w H.size)) (hP : va_P D vwCl ws H) (hD : va_D A ws) (hS : va_S A H0 H locs) (hA : ∀ q, H0.size ≤ q → A q)
    (is : List Nat) (hC : is.map (fun i => ws[i]?) = w.map some) (hz : (is.zip w').map (·.1) = is) (hnw : setAll ws (is.zip w') = nw) (hadr : nw.map (·.1) = ws.map (·.1)) (h2 : v.toList ++ rest = st2)
    (kk : ∀ (H1 : Heap) (locs1 : List Loc), va_P D vwCl nw H1 → va_D A nw → va_S A H0 H1 locs1 → W p l e R s m args below meth c H1 locs1 cells slots Q (F0 m (pc + 3) ls st2)) : W p l e R s m args below meth c H locs cells slots Q (F0 m pc ls st) := by
  intro T hT X
  obtain ⟨v', st₀, t, T', L, h0, X', hL, e1, -, ⟨hv, hp1, hz1, hk1⟩, sg⟩ := hr T hT X
  cases hv
  subst h2
  rw [h0] at hz1 hk1
  have hF := va_free (wc := w) hD hS hA is hC
  obtain ⟨hP', hD'⟩ := fr_set hP hD is hC hk1 hp1 hz hnw hadr
  obtain ⟨t2, a1, b1⟩ := kk T'.heap (locs ++ L) (by rw [e1]; exact hP') hD'
    ⟨Nat.le_trans hS.1 (by rw [e1]; exact hz1), fun q h1 h2 => by rw [e1, hk1 q (Nat.lt_of_lt_of_le h1 hS.1) (fun z => h2 (hF q z))]; exact hS.2.1 q h1 h2, fun q hq => by
      rcases List.mem_append.mp hq with h | h
      · exact hS.2.2 q h
      · exact hF _ (hL q h)⟩ T' rfl X'
  exact ⟨t2, sg t2 a1, b1⟩
theorem muV (S : CallFix p m c cc nL s args wsL_law own) (hE : EV D cI cC cZ s) (hM : Mu l y b n ret fr lo D cI cC cZ w w' (.ref o :: As) v) (L : LkV own idx C y b n ret k) (hP : va_P D vwCl ws H) (hD : va_D A ws) (hS : va_S A H0 H locs) (hA : ∀ q, H0.size ≤ q → A q)
    (is : List Nat) (hC : is.map (fun i => ws[i]?) = w.map some) (hCf : is.filterMap (fun i => ws[i]?) = w) (hnd : va_nd is = true) (hci : vwCl[ci]? = some (C, T, N)) (h0 : w[0]? = some (o, .inr (ci, fs)))
    (hk : As.length = k) (hsz : ls.size = nL) (hst : st = As.reverse ++ .ref o :: rest) (hrm : (rest.map fun v => v.category).sum ≤ 8) (hR : fr + 1 ≤ R.frames ∧ 8 + (n + 11) + lo ≤ R.locals) (hdg : decode cc pc = .ok (.invokevirtual idx, 3)) (hc : cells ≤ R.cells ∧ slots ≤ R.slots)
    (hz : (is.zip w').map (·.1) = is) (hnw : setAll ws (is.zip w') = nw) (hadr : nw.map (·.1) = ws.map (·.1)) (h2 : v.toList ++ rest = st2)
    (kk : ∀ (H1 : Heap) (locs1 : List Loc), va_P D vwCl nw H1 → va_D A nw → va_S A H0 H1 locs1 → W p l e R s m args below meth c H1 locs1 cells slots Q (F0 m (pc + 3) ls st2)) : W p l e R s m args below meth c H locs cells slots Q (F0 m pc ls st) := by
  have hPc := hP.sub is hCf
  have hDc := hD.sub is hnd hC
  exact muGo (As0 := .ref o :: As) (va_runV (As := As) (rest := rest) S (hM H.size) ⟨cbU S.2.2.2.2 L.1 L.2.2.2.1 L.2.2.2.2.1 L.2.2.2.2.2 hR, S.2.2.2.2 _ L.2.1, S.2.2.2.2 _ L.2.2.1⟩
    ⟨MuP.blind, va_recv hE.1 hPc hci h0, fun U hU hW => ⟨rfl, by rw [hU], EV.warm hW hE, by rw [hU]; exact hPc, hDc.weaken (fun _ _ _ _ => trivial)⟩⟩ rfl hk hsz hst (lv_room hrm) hdg hc) hP hD hS hA is hC hz hnw hadr h2 kk
theorem muS (S : CallFix p m c cc nL s args wsL_law own) (hE : EV D cI cC cZ s) (hM : Mu l y b n ret fr lo D cI cC cZ w w' As v) (L : LkS own idx y b n ret k) (hP : va_P D vwCl ws H) (hD : va_D A ws) (hS : va_S A H0 H locs) (hA : ∀ q, H0.size ≤ q → A q)
    (is : List Nat) (hC : is.map (fun i => ws[i]?) = w.map some) (hCf : is.filterMap (fun i => ws[i]?) = w) (hnd : va_nd is = true)
    (hk : As.length = k) (hsz : ls.size = nL) (hst : st = As.reverse ++ rest) (hrm : (rest.map fun v => v.category).sum ≤ 8) (hR : fr + 1 ≤ R.frames ∧ 8 + (n + 11) + lo ≤ R.locals) (hdg : decode cc pc = .ok (.invokestatic idx, 3)) (hc : cells ≤ R.cells ∧ slots ≤ R.slots)
    (hz : (is.zip w').map (·.1) = is) (hnw : setAll ws (is.zip w') = nw) (hadr : nw.map (·.1) = ws.map (·.1)) (h2 : v.toList ++ rest = st2)
    (kk : ∀ (H1 : Heap) (locs1 : List Loc), va_P D vwCl nw H1 → va_D A nw → va_S A H0 H1 locs1 → W p l e R s m args below meth c H1 locs1 cells slots Q (F0 m (pc + 3) ls st2)) : W p l e R s m args below meth c H locs cells slots Q (F0 m pc ls st) := by
  have hPc := hP.sub is hCf
  have hDc := hD.sub is hnd hC
  exact muGo (As0 := As) (va_runS (As := As) (rest := rest) S (hM H.size) ⟨cbU S.2.2.2.2 L.1 L.2.2.1 L.2.2.2.1 L.2.2.2.2 hR, S.2.2.2.2 _ L.2.1⟩
    ⟨MuP.blind, fun U hU hW => ⟨rfl, by rw [hU], EV.warm hW hE, by rw [hU]; exact hPc, hDc.weaken (fun _ _ _ _ => trivial)⟩⟩ rfl hk hsz hst (lv_room hrm) hdg hc) hP hD hS hA is hC hz hnw hadr h2 kk
/-- a method's start -/
theorem Rd.of (hy : plainName y.cls = true) (hn : (lg_sl As).length ≤ n) (lv : List (Nat × Value)) (hlv : lv_args 0 As = lv)
    (body : ∀ (p : Program) (e : Env) (s : State) (m : MethodId) (below : List Frame) (meth : Method) (c : Code) (ls : Array Slot), p.tables.exec = Jvm.exec → c.code = b → meth.sig.returnType = ret → c.maxLocals = n → s.vm.findClass y.cls = some m.cls → (∀ w ∈ wsL_law, w.before As.toArray s = true) → meth.locks = false → EV D cI cC cZ s → va_P D vwCl w s.heap → lv_has ls n lv →
      W p l e (RM fr lo) s m As.toArray below meth c s.heap [] 0 0 (MQ below (RdQ v) As.toArray s 0 0 (fun _ => False)) (F0 m 0 ls [])) : Rd l y b n ret fr lo D cI cC cZ w As v := by
  refine Met.ofW (cc := b) (maxL := n) (ret := ret) hy rfl ?_
  intro p e s m args below meth c s₁ B hml hv
  obtain ⟨rfl, hE, hP⟩ := hv
  have hts := atoms_spec (ws := .code y b n ret :: wsL_law) B.pre
  have hl := lv_entry As (n := n) hn
  rw [lg_entry_eq]
  rw [hlv] at hl
  exact body p e s m below meth c _ B.exec B.bytes B.returns hml (findClass_of_methodNamed B.named) (fun w h => hts w (List.mem_cons_of_mem _ h)) B.notSynchronized hE hP hl
theorem Mu.of (hy : plainName y.cls = true) (hn : (lg_sl As).length ≤ n) (lv : List (Nat × Value)) (hlv : lv_args 0 As = lv)
    (body : ∀ (p : Program) (e : Env) (s : State) (m : MethodId) (below : List Frame) (meth : Method) (c : Code) (ls : Array Slot) (A : Nat → Prop), p.tables.exec = Jvm.exec → c.code = b → meth.sig.returnType = ret → c.maxLocals = n → s.vm.findClass y.cls = some m.cls → (∀ w ∈ wsL_law, w.before As.toArray s = true) → meth.locks = false → EV D cI cC cZ s → va_P D vwCl w s.heap → va_D A w → va_S A s.heap s.heap [] → (∀ q : Nat, s.heap.size ≤ q → A q) → va_A w s.heap.size = A → lv_has ls n lv →
      W p l e (RM fr lo) s m As.toArray below meth c s.heap [] 0 0 (MQ below (MuQ D w w' s.heap.size v) As.toArray s 0 0 A) (F0 m 0 ls [])) : Mu l y b n ret fr lo D cI cC cZ w w' As v := by
  intro sz
  refine Met.ofW (cc := b) (maxL := n) (ret := ret) hy rfl ?_
  intro p e s m args below meth c s₁ B hml hv
  obtain ⟨rfl, rfl, hE, hP, hD⟩ := hv
  have hts := atoms_spec (ws := .code y b n ret :: wsL_law) B.pre
  have hl := lv_entry As (n := n) hn
  rw [lg_entry_eq]
  rw [hlv] at hl
  exact body p e s m below meth c _ (va_A w s.heap.size) B.exec B.bytes B.returns hml (findClass_of_methodNamed B.named) (fun w h => hts w (List.mem_cons_of_mem _ h)) B.notSynchronized hE hP hD.self va_S.rf (fun q h => Or.inr h) rfl hl
end KIT2
/-! pure words of the models -/
def b2i (b : Bool) : Int32 := if b = true then 1 else 0
theorem b2i_eq0 {b : Bool} : b2i b = 0 → ¬ b = true := by cases b <;> decide
theorem b2i_ne0 {b : Bool} : ¬ b2i b = 0 → b = true := by cases b <;> decide
theorem b2i_nar (b : Bool) : narrow .boolean (.int (b2i b)) = .int (b2i b) := by cases b <;> rfl
def inb (i : Int32) (n : Nat) : Bool := decide (¬ (i < 0 ∨ n ≤ i.toNatClampNeg))
theorem inb_vp {i : Int32} {n : Nat} (h : inb i n = true) : vp_in i n := by
  have h2 : ¬ (i < 0 ∨ n ≤ i.toNatClampNeg) := by unfold inb at h; simpa using h
  exact h2
def rd {α : Type} (f : Nat → Int32) (n : Nat) (i : Int32) (k : Int32 → Option α) : Option α := if inb i n = true then k (f i.toNatClampNeg) else none
def wr {α : Type} (f : Nat → Int32) (n : Nat) (i x : Int32) (k : (Nat → Int32) → Option α) : Option α := if inb i n = true then k (upd f i.toNatClampNeg x) else none
def dv {α : Type} (x y : Int32) (k : Int32 → Option α) : Option α := if y = 0 then none else k (x / y)
def rmd {α : Type} (x y : Int32) (k : Int32 → Option α) : Option α := if y = 0 then none else k (x - x / y * y)
def ldv {α : Type} (x y : Int64) (k : Int64 → Option α) : Option α := if y = 0 then none else k (x / y)
def lrm {α : Type} (x y : Int64) (k : Int64 → Option α) : Option α := if y = 0 then none else k (x - x / y * y)
def acp {α : Type} (f : Nat → Int32) (n0 : Nat) (sp : Int32) (g : Nat → Int32) (n1 : Nat) (dp n : Int32) (k : (Nat → Int32) → Option α) : Option α :=
  if ¬ sp < 0 ∧ ¬ dp < 0 ∧ ¬ n < 0 ∧ sp.toNatClampNeg + n.toNatClampNeg ≤ n0 ∧ dp.toNatClampNeg + n.toNatClampNeg ≤ n1 then k (va_cpy f g sp.toNatClampNeg dp.toNatClampNeg n.toNatClampNeg) else none
theorem rd_e {α : Type} {f : Nat → Int32} {n : Nat} {i : Int32} {k : Int32 → Option α} {r : α} (h : rd f n i k = some r) : vp_in i n ∧ k (f i.toNatClampNeg) = some r := by
  unfold rd at h
  split at h
  · next q => exact ⟨inb_vp q, h⟩
  · cases h
theorem wr_e {α : Type} {f : Nat → Int32} {n : Nat} {i x : Int32} {k : (Nat → Int32) → Option α} {r : α} (h : wr f n i x k = some r) : vp_in i n ∧ k (upd f i.toNatClampNeg x) = some r := by
  unfold wr at h
  split at h
  · next q => exact ⟨inb_vp q, h⟩
  · cases h
theorem dv_e {α : Type} {x y : Int32} {k : Int32 → Option α} {r : α} (h : dv x y k = some r) : ¬ y = 0 ∧ k (x / y) = some r := by
  unfold dv at h
  split at h
  · cases h
  · next q => exact ⟨q, h⟩
theorem rmd_e {α : Type} {x y : Int32} {k : Int32 → Option α} {r : α} (h : rmd x y k = some r) : ¬ y = 0 ∧ k (x - x / y * y) = some r := by
  unfold rmd at h
  split at h
  · cases h
  · next q => exact ⟨q, h⟩
theorem ldv_e {α : Type} {x y : Int64} {k : Int64 → Option α} {r : α} (h : ldv x y k = some r) : ¬ y = 0 ∧ k (x / y) = some r := by
  unfold ldv at h
  split at h
  · cases h
  · next q => exact ⟨q, h⟩
theorem lrm_e {α : Type} {x y : Int64} {k : Int64 → Option α} {r : α} (h : lrm x y k = some r) : ¬ y = 0 ∧ k (x - x / y * y) = some r := by
  unfold lrm at h
  split at h
  · cases h
  · next q => exact ⟨q, h⟩
theorem acp_e {α : Type} {f : Nat → Int32} {n0 : Nat} {sp : Int32} {g : Nat → Int32} {n1 : Nat} {dp n : Int32} {k : (Nat → Int32) → Option α} {r : α} (h : acp f n0 sp g n1 dp n k = some r) :
    (¬ sp < 0 ∧ ¬ dp < 0 ∧ ¬ n < 0 ∧ sp.toNatClampNeg + n.toNatClampNeg ≤ n0 ∧ dp.toNatClampNeg + n.toNatClampNeg ≤ n1) ∧ k (va_cpy f g sp.toNatClampNeg dp.toNatClampNeg n.toNatClampNeg) = some r := by
  unfold acp at h
  split at h
  · next q => exact ⟨q, h⟩
  · cases h
theorem ite_t {α : Type} {q : Prop} [hd : Decidable q] {a b r : α} (hq : q) (h : (if q then a else b) = r) : a = r := by rw [if_pos hq] at h; exact h
theorem ite_f {α : Type} {q : Prop} [hd : Decidable q] {a b r : α} (hq : ¬ q) (h : (if q then a else b) = r) : b = r := by rw [if_neg hq] at h; exact h
theorem bind_e {α β : Type} {o : Option α} {k : α → Option β} {r : β} (h : o.bind k = some r) : ∃ x, o = some x ∧ k x = some r := by
  cases o with
  | none => cases h
  | some x => exact ⟨x, rfl, h⟩
theorem sw_out {x : Int32} {lo hi : Int} (h : ∀ v : Int, lo ≤ v → v ≤ hi → x.toInt ≠ v) : x.toInt < lo ∨ hi < x.toInt := by
  rcases Int.lt_or_le x.toInt lo with q | q
  · exact Or.inl q
  · rcases Int.lt_or_le hi x.toInt with r | r
    · exact Or.inr r
    · exact absurd rfl (h x.toInt q r)
/-- fuel: a million, out of the kernel's sight -/
noncomputable def FU : Nat := Classical.choose (⟨1000000, rfl⟩ : ∃ n : Nat, n = 1000000)
theorem FU_eq : FU = 1000000 := Classical.choose_spec (⟨1000000, rfl⟩ : ∃ n : Nat, n = 1000000)
abbrev I3 : Type := Int32 × Int32 × Int32
abbrev Ar : Type := Nat × (Nat → Int32)
