section CNN
variable {p : Program} {l : Launch} {e : Env} {R : Room} {s : State} {m : MethodId} {args : Array Value} {below : List Frame} {meth : Method} {c : Code} {H H0 : Heap} {locs : List Loc} {cells slots : Nat} {Q : State → Prop}
variable {D : va_G} {cI cC cZ : ClassId} {cc b : ByteArray} {nL n k pc fr lo mc ms idx o : Nat} {own C : String} {y : MethodName} {w ws wr : va_W} {As rest st : List Value} {ls : Array Slot} {A : Nat → Prop} {Post : va_W → Prop}
def LkIN (y : MethodName) (b : ByteArray) (n k : Nat) : Prop := Cond.instanceMethod y ∈ wsL_law ∧ Cond.initialized y.cls ∈ wsL_law ∧ Cond.code y b n none ∈ wsL_law ∧ dOk y k ∧ y.name = "<init>"
theorem cnN {host : String} (S : CallFix p m c cc nL s args wsL_law own) (hE : EV D cI cC cZ s) (hN : va_Nw (.methodLinkNest own idx y host) s) (hM : Cn l y b n fr lo mc ms D cI cC cZ w (.ref o :: As) Post) (L : LkIN y b n k) (hP : va_P D vwCl ws H) (hD : va_D A ws) (hS : va_S A H0 H locs) (hA : ∀ q, H0.size ≤ q → A q)
    (isC isR : List Nat) (hC : isC.map (fun i => ws[i]?) = w.map some) (hCf : isC.filterMap (fun i => ws[i]?) = w) (hnd : va_nd isC = true) (hR : isR.map (fun i => ws[i]?) = wr.map some) (hn : va_nd isR = true) (hdis : ∀ i ∈ isR, i ∉ isC)
    (hk : As.length = k) (hsz : ls.size = nL) (hst : st = As.reverse ++ .ref o :: rest) (hrm : (rest.map fun v => v.category).sum ≤ 8) (hRm : fr + 1 ≤ R.frames ∧ 8 + (n + 11) + lo ≤ R.locals) (hdg : decode cc pc = .ok (.invokespecial idx, 3)) (hc : cells + mc ≤ R.cells ∧ slots + ms ≤ R.slots)
    (kk : ∀ (w1 : va_W) (H1 : Heap) (locs1 : List Loc), Post w1 → va_P D vwCl (wr ++ w1) H1 → va_D A (wr ++ w1) → va_S A H0 H1 locs1 → W p l e R s m args below meth c H1 locs1 (cells + mc) (slots + ms) Q (F0 m (pc + 3) ls rest)) : W p l e R s m args below meth c H locs cells slots Q (F0 m pc ls st) := by
  have hPc := hP.sub isC hCf
  have hDc := hD.sub isC hnd hC
  obtain ⟨l2, l3, l4, l5, l6⟩ := L
  exact cnGo (As0 := .ref o :: As) (va_runIN (As := As) (rest := rest) S (hM H.size) ⟨va_cnB k S.2.2.2.2 (goodU _ (consU l4)) rfl rfl rfl hN (S.2.2.2.2 _ l3) l5 hRm, l6, S.2.2.2.2 _ l2⟩
    ⟨MuP.blind, fun U hU hW => ⟨rfl, by rw [hU], EV.warm hW hE, by rw [hU]; exact hPc, hDc.weaken (fun _ _ _ _ => trivial)⟩⟩ rfl hk hsz hst (lv_room hrm) hdg hc) hP hD hS hA isC isR hC hR hn hdis kk
end CNN
