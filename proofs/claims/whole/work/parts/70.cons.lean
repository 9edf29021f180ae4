/-! contracts of constructors: the world grows -/
def RMa (fr lo mc ms : Nat) : Room := { frames := fr, cells := mc, slots := ms, locals := lo }
def CnQ (D : va_G) (w : va_W) (sz : Nat) (Post : va_W → Prop) : Array Value → State → Outcome → State → Prop := fun _ st oc t => oc = .returned none ∧ (∃ w', Post w' ∧ va_P D vwCl w' t.heap ∧ va_D (va_A w sz) w') ∧ va_F (va_A w sz) st t
def Cn (l : Launch) (y : MethodName) (b : ByteArray) (n : Nat) (fr lo mc ms : Nat) (D : va_G) (cI cC cZ : ClassId) (w : va_W) (as : List Value) (Post : va_W → Prop) : Prop :=
  ∀ sz : Nat, Met l y (.code y b n none :: wsL_law) (RMa fr lo mc ms) (MuP D cI cC cZ w sz as) (CnQ D w sz Post) mc ms (va_A w sz)
section CNS
variable {p : Program} {l : Launch} {e : Env} {R : Room} {s : State} {m : MethodId} {args : Array Value} {below : List Frame} {meth : Method} {c : Code} {H H0 : Heap} {locs : List Loc} {cells slots : Nat} {Q : State → Prop}
variable {D : va_G} {cI cC cZ : ClassId} {cc b : ByteArray} {nL n k pc fr lo mc ms idx o : Nat} {own C : String} {y : MethodName} {w ws wr : va_W} {As rest st : List Value} {ls : Array Slot} {A : Nat → Prop} {Post : va_W → Prop}
theorem Cn.of (hy : plainName y.cls = true) (hn : (lg_sl As).length ≤ n) (lv : List (Nat × Value)) (hlv : lv_args 0 As = lv)
    (body : ∀ (p : Program) (e : Env) (s : State) (m : MethodId) (args : Array Value) (below : List Frame) (meth : Method) (c : Code) (ls : Array Slot) (Q : State → Prop) (A : Nat → Prop), p.tables.exec = Jvm.exec → c.code = b → c.maxLocals = n → s.vm.findClass y.cls = some m.cls → (∀ w ∈ wsL_law, w.before args s = true) → meth.name = y.name → EV D cI cC cZ s → va_P D vwCl w s.heap → va_D A w → va_S A s.heap s.heap [] → (∀ q : Nat, s.heap.size ≤ q → A q) →
      (∀ (pc : Nat) (ls : Array Slot) (H : Heap) (locs : List Loc) (w' : va_W), Post w' → va_P D vwCl w' H → va_D A w' → va_S A s.heap H locs → decode b pc = .ok (.return_, 1) → W p l e (RMa fr lo mc ms) s m args below meth c H locs mc ms Q (F0 m pc ls [])) → lv_has ls n lv → W p l e (RMa fr lo mc ms) s m args below meth c s.heap [] 0 0 Q (F0 m 0 ls [])) : Cn l y b n fr lo mc ms D cI cC cZ w As Post := by
  intro sz
  refine Met.ofW (cc := b) (maxL := n) (ret := none) hy rfl ?_
  intro p e s m args below meth c s₁ B hml hv
  obtain ⟨rfl, rfl, hE, hP, hD⟩ := hv
  have hts := atoms_spec (ws := .code y b n none :: wsL_law) B.pre
  have hl := lv_entry As (n := n) hn
  rw [lg_entry_eq]
  rw [hlv] at hl
  have hin : meth.name = y.name := (name_of_methodNamed B.named B.method).1
  exact body p e s m As.toArray below meth c _ _ (va_A w s.heap.size) B.exec B.bytes hml (findClass_of_methodNamed B.named) (fun w h => hts w (List.mem_cons_of_mem _ h)) hin hE hP hD.self va_S.rf (fun q h => Or.inr h)
    (fun pc ls H locs w' h1 h2 h3 h4 hd => W.vret B.exec B.bytes B.returns (fun t ht hW => ⟨rfl, ⟨w', h1, by rw [ht]; exact h2, h3⟩, h4.F ht⟩) h4.2.2 hd B.notSynchronized) hl
/-- behind a constructor -/
theorem cnGo {As0 : List Value} (hr : va_Run p l e R s m args below meth c H locs cells slots mc ms (F0 m pc ls st) rest (CnQ D w H.size Post As0.toArray) (va_A w H.size)) (hP : va_P D vwCl ws H) (hD : va_D A ws) (hS : va_S A H0 H locs) (hA : ∀ q, H0.size ≤ q → A q)
    (isC isR : List Nat) (hC : isC.map (fun i => ws[i]?) = w.map some) (hR : isR.map (fun i => ws[i]?) = wr.map some) (hn : va_nd isR = true) (hdis : ∀ i ∈ isR, i ∉ isC)
    (kk : ∀ (w1 : va_W) (H1 : Heap) (locs1 : List Loc), Post w1 → va_P D vwCl (wr ++ w1) H1 → va_D A (wr ++ w1) → va_S A H0 H1 locs1 → W p l e R s m args below meth c H1 locs1 (cells + mc) (slots + ms) Q (F0 m (pc + 3) ls rest)) : W p l e R s m args below meth c H locs cells slots Q (F0 m pc ls st) := by
  intro T hT X
  obtain ⟨v', st₀, t, T', L, h0, X', hL, e1, -, ⟨hv, ⟨w1, hpost, hp1, hd1⟩, hz1, hk1⟩, sg⟩ := hr T hT X
  cases hv
  rw [h0] at hz1 hk1
  have hF := va_free (wc := w) hD hS hA isC hC
  obtain ⟨hP', hD'⟩ := va_join (wr := wr) (w1 := w1) hP hD isC isR hC hR hn hdis hk1 hF hp1 hd1
  obtain ⟨t2, a1, b1⟩ := kk w1 T'.heap (locs ++ L) hpost (by rw [e1]; exact hP') hD'
    ⟨Nat.le_trans hS.1 (by rw [e1]; exact hz1), fun q h1 h2 => by rw [e1, hk1 q (Nat.lt_of_lt_of_le h1 hS.1) (fun z => h2 (hF q z))]; exact hS.2.1 q h1 h2, fun q hq => by
      rcases List.mem_append.mp hq with h | h
      · exact hS.2.2 q h
      · exact hF _ (hL q h)⟩ T' rfl X'
  exact ⟨t2, sg t2 a1, b1⟩
def LkI (own : String) (idx : Nat) (y : MethodName) (b : ByteArray) (n k : Nat) : Prop := Cond.methodLink own idx y ∈ wsL_law ∧ Cond.instanceMethod y ∈ wsL_law ∧ Cond.initialized y.cls ∈ wsL_law ∧ Cond.code y b n none ∈ wsL_law ∧ dOk y k ∧ y.name = "<init>"
theorem cnI (S : CallFix p m c cc nL s args wsL_law own) (hE : EV D cI cC cZ s) (hM : Cn l y b n fr lo mc ms D cI cC cZ w (.ref o :: As) Post) (L : LkI own idx y b n k) (hP : va_P D vwCl ws H) (hD : va_D A ws) (hS : va_S A H0 H locs) (hA : ∀ q, H0.size ≤ q → A q)
    (isC isR : List Nat) (hC : isC.map (fun i => ws[i]?) = w.map some) (hCf : isC.filterMap (fun i => ws[i]?) = w) (hnd : va_nd isC = true) (hR : isR.map (fun i => ws[i]?) = wr.map some) (hn : va_nd isR = true) (hdis : ∀ i ∈ isR, i ∉ isC)
    (hk : As.length = k) (hsz : ls.size = nL) (hst : st = As.reverse ++ .ref o :: rest) (hrm : (rest.map fun v => v.category).sum ≤ 8) (hRm : fr + 1 ≤ R.frames ∧ 8 + (n + 11) + lo ≤ R.locals) (hdg : decode cc pc = .ok (.invokespecial idx, 3)) (hc : cells + mc ≤ R.cells ∧ slots + ms ≤ R.slots)
    (kk : ∀ (w1 : va_W) (H1 : Heap) (locs1 : List Loc), Post w1 → va_P D vwCl (wr ++ w1) H1 → va_D A (wr ++ w1) → va_S A H0 H1 locs1 → W p l e R s m args below meth c H1 locs1 (cells + mc) (slots + ms) Q (F0 m (pc + 3) ls rest)) : W p l e R s m args below meth c H locs cells slots Q (F0 m pc ls st) := by
  have hPc := hP.sub isC hCf
  have hDc := hD.sub isC hnd hC
  obtain ⟨l1, l2, l3, l4, l5, l6⟩ := L
  exact cnGo (As0 := .ref o :: As) (va_runI (As := As) (rest := rest) S (hM H.size) ⟨callB_of k S.2.2.2.2 (goodU _ (consU l4)) rfl rfl rfl (S.2.2.2.2 _ l3) (S.2.2.2.2 _ l1) l5 hRm, l6, S.2.2.2.2 _ l2⟩
    ⟨MuP.blind, fun U hU hW => ⟨rfl, by rw [hU], EV.warm hW hE, by rw [hU]; exact hPc, hDc.weaken (fun _ _ _ _ => trivial)⟩⟩ rfl hk hsz hst (lv_room hrm) hdg hc) hP hD hS hA isC isR hC hR hn hdis kk
end CNS
