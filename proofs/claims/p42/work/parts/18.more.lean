/-! longs, floats; the law's own script and end -/
def jLc (x y : Int64) : Int := (lg_cmp x y).toInt
def jFc (op : CmpOp) (x y : UInt32) : Int := (Op.cmpValue (FP.fcmp x y) op).toInt
def qF (G : jG) (k : UInt32 → jM → Prop) : Array Value → State → Outcome → State → Prop := va_Qf (fun (r : UInt32) (u : jM) => k r u ∧ jOK u) (fun u t => va_P G.1 vwCl (gW G u) t.heap) (gA G)
def qJ (G : jG) (k : Int64 → jM → Prop) : Array Value → State → Outcome → State → Prop := va_Ql (fun (r : Int64) (u : jM) => k r u ∧ jOK u) (fun u t => va_P G.1 vwCl (gW G u) t.heap) (gA G)
theorem jI_ne {b : Int} (hb : jR b) (h : ¬ b = 0) : ¬ jI b = 0 := fun q => h ((jI_eq hb (by decide : jR 0)).mp q)
theorem va_ldcwF {p : Program} {l : Launch} {e : Env} {R : Room} {s : State} {m : MethodId} {args : Array Value} {below : List Frame} {meth : Method} {c : Code} {locs : List Loc} {cells slots : Nat} {T : State} (X : Stand p l e R s m args below meth c T locs cells slots) (hexec : p.tables.exec = Jvm.exec) {own : String} {index : Nat} {v : UInt32} (hown : s.vm.findClass own = some m.cls)
    (hconst : (Cond.constantFloat own index v).before args s = true) {g : JFrame} (hg : g.method = m) (hdg : decode c.code g.pc = .ok (.ldc_w index, 3)) :
    ∀ target, Steps p.tables e below (T.setTop { g with pc := g.pc + 3, stack := .float v :: g.stack }) target → Steps p.tables e below (T.setTop g) target := by
  obtain ⟨k, cf, hk, hcf, hcp⟩ := Cond.constantFloat_spec hown hconst
  obtain ⟨k', hk', he⟩ := X.warmed.alike.2.2 _ _ hk
  intro target hrest
  subst hg
  jvm_step X.here [hexec, hdg, ldc_w.wp_float (s := T) (f := g) X.here.top hk' (by rw [he]; exact hcf) hcp]
  exact hrest
section JF
variable {p : Program} {l : Launch} {e : Env} {R : Room} {s : State} {m : MethodId} {args : Array Value} {below : List Frame} {meth : Method} {c : Code} {H : Heap} {locs : List Loc} {cells slots : Nat} {Q : State → Prop} {cc : ByteArray} {nL : Nat} {own : String} {G : jG} {M : jM} {H0 : Heap} {pc : Nat} {ls : Array Slot} {rest : List Value}
theorem jr_nmj {x : Int64} {P : Int64 → Prop} (h : jL x P) (kk : ∀ y : Int64, P y → W p l e R s m args below meth c H locs cells slots Q (F0 m pc ls (.long y :: rest))) : W p l e R s m args below meth c H locs cells slots Q (F0 m pc ls (.long x :: rest)) := kk x h
theorem jr_ldcwf {idx : Nat} {v : UInt32} (C : Cx G p s args m c cc nL own) (q : Cond.constantFloat own idx v ∈ tb) (hdg : decode cc pc = .ok (.ldc_w idx, 3)) (kk : W p l e R s m args below meth c H locs cells slots Q (F0 m (pc + 3) ls (.float v :: rest))) : W p l e R s m args below meth c H locs cells slots Q (F0 m pc ls rest) := by
  intro T hT X
  obtain ⟨t, a, b⟩ := kk T hT X
  exact ⟨t, va_ldcwF X C.1 C.2.2.2.1 (C.2.2.2.2.1 _ q) (g := F0 m pc ls rest) rfl (by rw [C.2.1]; exact hdg) t a, b⟩
theorem jr_ldcf {idx : Nat} {v : UInt32} (C : Cx G p s args m c cc nL own) (q : Cond.constantFloat own idx v ∈ tb) (hdg : decode cc pc = .ok (.ldc idx, 2)) (kk : W p l e R s m args below meth c H locs cells slots Q (F0 m (pc + 2) ls (.float v :: rest))) : W p l e R s m args below meth c H locs cells slots Q (F0 m pc ls rest) := lv_ldcf C.1 C.2.1 C.2.2.2.1 (C.2.2.2.2.1 _ q) hdg kk
theorem jr_ldc2 {idx : Nat} {v : Int64} (C : Cx G p s args m c cc nL own) (q : Cond.constantLong own idx v ∈ tb) (hdg : decode cc pc = .ok (.ldc2_w idx, 3)) (kk : W p l e R s m args below meth c H locs cells slots Q (F0 m (pc + 3) ls (.long v :: rest))) : W p l e R s m args below meth c H locs cells slots Q (F0 m pc ls rest) := lv_ldc2 C.1 C.2.1 C.2.2.2.1 (C.2.2.2.2.1 _ q) hdg kk
theorem jr_lcmp {x y : Int64} (C : Cx G p s args m c cc nL own) (hdg : decode cc pc = .ok (.lcmp, 1)) (kk : W p l e R s m args below meth c H locs cells slots Q (F0 m (pc + 1) ls (.int (jI (jLc x y)) :: rest))) : W p l e R s m args below meth c H locs cells slots Q (F0 m pc ls (.long y :: .long x :: rest)) :=
  W.lcmp C.1 C.2.1 hdg (by unfold jLc at kk; rw [jI_of] at kk; exact kk)
theorem jr_fcmp {op : CmpOp} {x y : UInt32} (C : Cx G p s args m c cc nL own) (hdg : decode cc pc = .ok (.fcmp op, 1)) (kk : W p l e R s m args below meth c H locs cells slots Q (F0 m (pc + 1) ls (.int (jI (jFc op x y)) :: rest))) : W p l e R s m args below meth c H locs cells slots Q (F0 m pc ls (.float y :: .float x :: rest)) :=
  lv_fcmp C.1 C.2.1 hdg (by unfold jFc at kk; rw [jI_of] at kk; exact kk)
theorem jr_fret {k : UInt32 → jM → Prop} {v : UInt32} (C : Cx G p s args m c cc nL own) (B : Hp G M s.heap H locs) (hr : meth.sig.returnType = some .float) (hlocks : meth.locks = false) (h : k v M) (hdg : decode cc pc = .ok (.freturn, 1)) : W p l e R s m args below meth c H locs cells slots (MQ below (qF G k) args s cells slots (gA G)) (F0 m pc ls [.float v]) :=
  W.fret C.1 C.2.1 hr (fun t ht _ => ⟨⟨v, M, rfl, ⟨h, B.2.2⟩, by (dsimp only); rw [ht]; exact B.1⟩, B.2.1.F ht⟩) B.2.1.2.2 hdg hlocks
theorem jr_lret {k : Int64 → jM → Prop} {v : Int64} (C : Cx G p s args m c cc nL own) (B : Hp G M s.heap H locs) (hr : meth.sig.returnType = some .long) (hlocks : meth.locks = false) (h : k v M) (hdg : decode cc pc = .ok (.lreturn, 1)) : W p l e R s m args below meth c H locs cells slots (MQ below (qJ G k) args s cells slots (gA G)) (F0 m pc ls [.long v]) :=
  W.lret C.1 C.2.1 hr (fun t ht _ => ⟨⟨v, M, rfl, ⟨h, B.2.2⟩, by (dsimp only); rw [ht]; exact B.1⟩, B.2.1.F ht⟩) B.2.1.2.2 hdg hlocks
theorem jr_callFl {k : UInt32 → jM → Prop} {a : Array Value} {st : List Value} (B : Hp G M H0 H locs) (hr : va_Run p l e R s m args below meth c H locs cells slots 0 0 (F0 m pc ls st) rest (qF G k a) (gA G)) (kk : ∀ (r : UInt32) (M' : jM) (H1 : Heap) (locs1 : List Loc), k r M' → Hp G M' H0 H1 locs1 → W p l e R s m args below meth c H1 locs1 cells slots Q (F0 m (pc + 3) ls (.float r :: rest))) : W p l e R s m args below meth c H locs cells slots Q (F0 m pc ls st) := by
  refine va_callf hr B.2.1 (fun _ _ h => h) (fun _ h => h) (fun r u t H1 locs1 ht _ hp hb _ _ hS => ?_)
  exact kk r u H1 locs1 hp.1 ⟨by rw [← ht]; exact hb, hS, hp.2⟩
theorem jr_callJ {k : Int64 → jM → Prop} {a : Array Value} {st : List Value} (B : Hp G M H0 H locs) (hr : va_Run p l e R s m args below meth c H locs cells slots 0 0 (F0 m pc ls st) rest (qJ G k a) (gA G)) (kk : ∀ (r : Int64) (M' : jM) (H1 : Heap) (locs1 : List Loc), k r M' → Hp G M' H0 H1 locs1 → W p l e R s m args below meth c H1 locs1 cells slots Q (F0 m (pc + 3) ls (.long r :: rest))) : W p l e R s m args below meth c H locs cells slots Q (F0 m pc ls st) := by
  refine va_calll hr B.2.1 (fun _ _ h => h) (fun _ h => h) (fun r u t H1 locs1 ht _ hp hb _ _ hS => ?_)
  exact kk r u H1 locs1 hp.1 ⟨by rw [← ht]; exact hb, hS, hp.2⟩
theorem jr_sld (C : Cx G p s args m c cc nL own) {b Ln : Nat} {xs : Nat → Int32} {X : Int → Int} {L i : Int} (hX : va_X b Ln xs s H0) (hL : L = (Ln : Int)) (h4 : ∀ j : Nat, X (j : Int) = (xs j).toInt) (hbl : b < H0.size) (hbA : ¬ gA G b) (B : Hp G M H0 H locs) (hr : jR i) (hi : jB i L) (hdg : decode cc pc = .ok (.iaload, 1))
    (kk : W p l e R s m args below meth c H locs cells slots Q (F0 m (pc + 1) ls (.int (jI (X i)) :: rest))) : W p l e R s m args below meth c H locs cells slots Q (F0 m pc ls (.int (jI i) :: .ref b :: rest)) := by
  subst hL
  refine va_sld C.1 C.2.1 hX hbl hbA B.2.1 (jI_in hi hr) hdg ?_
  rw [show xs (jI i).toNatClampNeg = jI (X i) from ?_]
  · exact kk
  · rw [jI_cl hr, show X i = X ((i.toNat : Nat) : Int) by rw [Int.toNat_of_nonneg hi.1], h4, jI_of]
theorem jr_slen (C : Cx G p s args m c cc nL own) {b Ln : Nat} {xs : Nat → Int32} {L : Int} (hX : va_X b Ln xs s H0) (hL : L = (Ln : Int)) (hbl : b < H0.size) (hbA : ¬ gA G b) (B : Hp G M H0 H locs) (hdg : decode cc pc = .ok (.arraylength, 1))
    (kk : W p l e R s m args below meth c H locs cells slots Q (F0 m (pc + 1) ls (.int (jI L) :: rest))) : W p l e R s m args below meth c H locs cells slots Q (F0 m pc ls (.ref b :: rest)) := by
  subst hL
  exact va_slen C.1 C.2.1 hX hbl hbA B.2.1 hdg kk
end JF
/-! the law's own script, at a call of lot -/
def LotX (G : jG) (X : Int → Int) (L : Int) (b Ln : Nat) (xs : Nat → Int32) (s : State) (H0 : Heap) : Prop := va_X b Ln xs s H0 ∧ b < H0.size ∧ ¬ gA G b ∧ L = (Ln : Int) ∧ jR L ∧ (∀ i, jR (X i)) ∧ ∀ j : Nat, X (j : Int) = (xs j).toInt
def xPc (G : jG) (M : jM) (b Ln : Nat) (xs : Nat → Int32) (av : List Value) : Array Value → State → Prop := va_Pc av (fun U => va_P G.1 vwCl (gW G M) U.heap ∧ KK G U ∧ va_X b Ln xs U U.heap ∧ b < U.heap.size)
theorem xPc_blind {G : jG} {M : jM} {b Ln : Nat} {xs : Nat → Int32} {av : List Value} : FrameBlind (xPc G M b Ln xs av) := fun a U g mk q => ⟨q.1, q.2.1, KK.same (u := U) (U := U.calling g mk a) rfl q.2.2.1, va_X.moved (u := U) (U := U.calling g mk a) (Vm.Alike.refl U.vm) q.2.2.2.1, q.2.2.2.2⟩
