/-! draws: a method that may make a NaN; the law's own script and end -/
theorem Cx.redraw {G : jG} {p : Program} {s : State} {args : Array Value} {m : MethodId} {c : Code} {cc : ByteArray} {nL : Nat} {own : String} {d0 : Drawn} (C : Cx G p (s.setDrawn d0) args m c cc nL own) (d : Drawn) : Cx G p (s.setDrawn d) args m c cc nL own :=
  ⟨C.1, C.2.1, C.2.2.1, C.2.2.2.1, fun w hw => (Cond.before_setDrawn args s d w).trans ((Cond.before_setDrawn args s d0 w).symm.trans (C.2.2.2.2.1 w hw)), KK.same (u := s.setDrawn d0) rfl C.2.2.2.2.2⟩
def qF (G : jG) (k : UInt32 → jM → Prop) : Array Value → State → Outcome → State → Prop := va_Qf (fun (r : UInt32) (u : jM) => k r u ∧ jOK u) (fun u t => va_P G.1 vwCl (gW G u) t.heap) (gA G)
theorem jm_startD {l : Launch} {y : MethodName} {b : ByteArray} {n : Nat} {r : Option FieldType} {rm : Room} {G : jG} {M : jM} {av : List Value} {Qc : Array Value → State → Outcome → State → Prop} (own : String) (ho : y.cls = own) (hy : plainName y.cls = true) (hlen : (lg_sl av).length ≤ n) (hok : jOK M)
    (body : ∀ (p : Program) (e : Env) (s : State) (m : MethodId) (args : Array Value) (below : List Frame) (meth : Method) (c : Code) (ls : Array Slot), Cx G p (s.setDrawn s.drawn) args m c b n own → meth.sig.returnType = r → meth.locks = false → lv_has ls n (lv_args 0 av) → Hp G M s.heap s.heap [] → s.drawn.sameBut s.drawn lw_cs → W p l e rm (s.setDrawn s.drawn) m args below meth c s.heap [] 0 0 (MQD lw_cs below Qc args s 0 0 (gA G)) (F0 m 0 ls [])) : MetD lw_cs l y (wsG y b n r) rm (jPc G M av) Qc 0 0 (gA G) := by
  refine MetD.ofW (cc := b) (maxL := n) (ret := r) hy rfl ?_
  intro p e s m args below meth c s₁ B hml hv hd
  obtain ⟨rfl, hP, hK⟩ := hv
  have hl := lv_entry av (n := n) hlen
  rw [lg_entry_eq]
  generalize (lg_sl av ++ List.replicate (n - (lg_sl av).length) Slot.unset).toArray = ls at hl ⊢
  have hts := atoms_spec (ws := wsG y b n r) B.pre
  exact body p e s m _ below meth c ls ⟨B.exec, B.bytes, hml, by rw [← ho]; exact findClass_of_methodNamed B.named, dr_words (fun w hw => hts w (List.mem_cons_of_mem _ hw)) _, KK.same (u := s) rfl hK⟩ B.returns B.notSynchronized hl ⟨hP, va_S.rf, hok⟩ hd
theorem va_ldcwF {p : Program} {l : Launch} {e : Env} {R : Room} {s : State} {m : MethodId} {args : Array Value} {below : List Frame} {meth : Method} {c : Code} {locs : List Loc} {cells slots : Nat} {T : State} (X : Stand p l e R s m args below meth c T locs cells slots) (hexec : p.tables.exec = Jvm.exec) {own : String} {index : Nat} {v : UInt32} (hown : s.vm.findClass own = some m.cls)
    (hconst : (Cond.constantFloat own index v).before args s = true) {g : JFrame} (hg : g.method = m) (hdg : decode c.code g.pc = .ok (.ldc_w index, 3)) :
    ∀ target, Steps p.tables e below (T.setTop { g with pc := g.pc + 3, stack := .float v :: g.stack }) target → Steps p.tables e below (T.setTop g) target := by
  obtain ⟨k, cf, hk, hcf, hcp⟩ := Cond.constantFloat_spec hown hconst
  obtain ⟨k', hk', he⟩ := X.warmed.alike.2.2 _ _ hk
  intro target hrest
  subst hg
  jvm_step X.here [hexec, hdg, ldc_w.wp_float (s := T) (f := g) X.here.top hk' (by rw [he]; exact hcf) hcp]
  exact hrest
def jCmp (x y : UInt64) : Int := (Op.cmpValue (FP.dcmp x y) .l).toInt
section JF
variable {p : Program} {l : Launch} {e : Env} {R : Room} {s : State} {m : MethodId} {args : Array Value} {below : List Frame} {meth : Method} {c : Code} {H : Heap} {locs : List Loc} {cells slots : Nat} {Q : State → Prop} {cc : ByteArray} {nL : Nat} {own : String} {G : jG} {M : jM} {H0 : Heap} {pc : Nat} {ls : Array Slot} {rest : List Value}
theorem jr_ldcwf {idx : Nat} {v : UInt32} (C : Cx G p s args m c cc nL own) (q : Cond.constantFloat own idx v ∈ tb) (hdg : decode cc pc = .ok (.ldc_w idx, 3)) (kk : W p l e R s m args below meth c H locs cells slots Q (F0 m (pc + 3) ls (.float v :: rest))) : W p l e R s m args below meth c H locs cells slots Q (F0 m pc ls rest) := by
  intro T hT X
  obtain ⟨t, a, b⟩ := kk T hT X
  exact ⟨t, va_ldcwF X C.1 C.2.2.2.1 (C.2.2.2.2.1 _ q) (g := F0 m pc ls rest) rfl (by rw [C.2.1]; exact hdg) t a, b⟩
theorem jr_dcmp {x y : UInt64} (C : Cx G p s args m c cc nL own) (hdg : decode cc pc = .ok (.dcmp .l, 1)) (kk : W p l e R s m args below meth c H locs cells slots Q (F0 m (pc + 1) ls (.int (jI (jCmp x y)) :: rest))) : W p l e R s m args below meth c H locs cells slots Q (F0 m pc ls (.double y :: .double x :: rest)) :=
  lv_dcmp C.1 C.2.1 hdg (by unfold jCmp at kk; rw [jI_of] at kk; exact kk)
theorem jr_fret {k : UInt32 → jM → Prop} {v : UInt32} (C : Cx G p s args m c cc nL own) (B : Hp G M s.heap H locs) (hr : meth.sig.returnType = some .float) (hlocks : meth.locks = false) (h : k v M) (hdg : decode cc pc = .ok (.freturn, 1)) : W p l e R s m args below meth c H locs cells slots (MQ below (qF G k) args s cells slots (gA G)) (F0 m pc ls [.float v]) :=
  W.fret C.1 C.2.1 hr (fun t ht _ => ⟨⟨v, M, rfl, ⟨h, B.2.2⟩, by (dsimp only); rw [ht]; exact B.1⟩, B.2.1.F ht⟩) B.2.1.2.2 hdg hlocks
theorem jr_sld (C : Cx G p s args m c cc nL own) {b Ln : Nat} {xs : Nat → Int32} {X : Int → Int} {L i : Int} {s0 : State} (hX : va_X b Ln xs s0 H0 ∧ s.vm = s0.vm ∧ L = (Ln : Int) ∧ ∀ j : Nat, X (j : Int) = (xs j).toInt) (hbl : b < H0.size) (hbA : ¬ gA G b) (B : Hp G M H0 H locs) (hr : jR i) (hi : jB i L) (hdg : decode cc pc = .ok (.iaload, 1))
    (kk : W p l e R s m args below meth c H locs cells slots Q (F0 m (pc + 1) ls (.int (jI (X i)) :: rest))) : W p l e R s m args below meth c H locs cells slots Q (F0 m pc ls (.int (jI i) :: .ref b :: rest)) := by
  obtain ⟨h1, h2, rfl, h4⟩ := hX
  refine va_sld C.1 C.2.1 (va_X.moved (by rw [h2]; exact Vm.Alike.refl _) h1) hbl hbA B.2.1 (jI_in hi hr) hdg ?_
  rw [show xs (jI i).toNatClampNeg = jI (X i) from ?_]
  · exact kk
  · rw [jI_cl hr, show X i = X ((i.toNat : Nat) : Int) by rw [Int.toNat_of_nonneg hi.1], h4, jI_of]
theorem jr_slen (C : Cx G p s args m c cc nL own) {b Ln : Nat} {xs : Nat → Int32} {X : Int → Int} {L : Int} {s0 : State} (hX : va_X b Ln xs s0 H0 ∧ s.vm = s0.vm ∧ L = (Ln : Int) ∧ ∀ j : Nat, X (j : Int) = (xs j).toInt) (hbl : b < H0.size) (hbA : ¬ gA G b) (B : Hp G M H0 H locs) (hdg : decode cc pc = .ok (.arraylength, 1))
    (kk : W p l e R s m args below meth c H locs cells slots Q (F0 m (pc + 1) ls (.int (jI L) :: rest))) : W p l e R s m args below meth c H locs cells slots Q (F0 m pc ls (.ref b :: rest)) := by
  obtain ⟨h1, h2, rfl, h4⟩ := hX
  exact va_slen C.1 C.2.1 (va_X.moved (by rw [h2]; exact Vm.Alike.refl _) h1) hbl hbA B.2.1 hdg kk
variable {y : MethodName} {bytes : ByteArray} {maxL n idx : Nat} {rt : Option FieldType} {rm : Room} {Qc : Array Value → State → Outcome → State → Prop} {As st : List Value} {o : Int}
theorem jr_runVD (C : Cx G p s args m c cc nL own) (hl : ls.size = nL) (B : Hp G M H0 H locs) (hM : MetD lw_cs l y (wsG y bytes maxL rt) rm (jPc G M (.ref (jD G o) :: As)) Qc 0 0 (gA G)) {ci : Nat} {fs : List Value} {T : u_T} {N : Nat} (he : jE G M o = .inr (ci, fs)) (h0 : jK o ≠ 0) (hc : vwCl[ci]? = some (y.cls, T, N)) (q1 : Cond.methodLink own idx y ∈ tb) (q2 : Cond.instanceMethod y ∈ tb) (q3 : Cond.selects y.cls y y ∈ tb) (q4 : Cond.code y bytes maxL rt ∈ tb) (q5 : Cond.initialized y.cls ∈ tb) (hd : y.cls ≠ "java/lang/invoke/MethodHandle" ∧ y.cls ≠ "java/lang/invoke/VarHandle" ∧ (parseMethodDescriptor y.desc).map (fun d => d.parameters.length) = some n) (hn : As.length = n) (hrc : rm.cells = 0 ∧ rm.slots = 0) (hR : rm.frames + 1 ≤ R.frames ∧ 8 + (maxL + 11) + rm.locals ≤ R.locals) (hcs : cells ≤ R.cells ∧ slots ≤ R.slots) (hst : st = As.reverse ++ .ref (jD G o) :: rest) (hW : (rest.map fun v => v.category).sum ≤ 8) (hdg : decode cc pc = .ok (.invokevirtual idx, 3)) : va_RunD lw_cs p l e R s m args below meth c H locs cells slots 0 0 (F0 m pc ls st) rest (Qc (Value.ref (jD G o) :: As).toArray) (gA G) :=
  va_runV_D ⟨C.1, C.2.1, C.2.2.1, C.2.2.2.1, C.2.2.2.2.1⟩ hM ⟨callB_of n C.2.2.2.2.1 (wsG_good q4) rfl hrc.1 hrc.2 (C.2.2.2.2.1 _ q5) (C.2.2.2.2.1 _ q1) hd hR, C.2.2.2.2.1 _ q2, C.2.2.2.2.1 _ q3⟩ ⟨jPc_blind, va_recv C.2.2.2.2.2.1 B.1 hc (q0 := o.toNat) (by rw [gW_get h0, he]), fun U hU hW => ⟨rfl, by rw [hU]; exact B.1, C.2.2.2.2.2.warm hW⟩⟩ rfl hn hl hst (lv_room hW) hdg hcs
theorem jr_callF {k : UInt32 → jM → Prop} {a : Array Value} {d0 : Drawn} (hd : s.drawn.sameBut d0 lw_cs) (B : Hp G M H0 H locs) (hr : va_RunD lw_cs p l e R (s.setDrawn d0) m args below meth c H locs cells slots 0 0 (F0 m pc ls st) rest (qF G k a) (gA G)) (kk : ∀ (r : UInt32) (M' : jM) (d1 : Drawn) (H1 : Heap) (locs1 : List Loc), k r M' → Hp G M' H0 H1 locs1 → s.drawn.sameBut d1 lw_cs → W p l e R (s.setDrawn d1) m args below meth c H1 locs1 cells slots Q (F0 m (pc + 3) ls (.float r :: rest))) : W p l e R (s.setDrawn d0) m args below meth c H locs cells slots Q (F0 m pc ls st) := by
  refine va_callfD hd hr B.2.1 (fun _ _ h => h) (fun _ h => h) (fun r u t H1 locs1 ht _ hp hb _ _ hS d1 hd1 => ?_)
  exact kk r u d1 H1 locs1 hp.1 ⟨by rw [← ht]; exact hb, hS, hp.2⟩ hd1
end JF
theorem jl_end {p : Program} {l : Launch} {e : Env} {s : State} {m : MethodId} {below : List Frame} {meth : Method} {c : Code} {H : Heap} {locs : List Loc} {ls : Array Slot} {b : Nat} {G : jG} {M : jM} {d0 : Drawn} {pc : Nat} (hd : s.drawn.sameBut d0 lw_cs) (hGb : s.heap.size ≤ G.2.2) (C : Cx G p (s.setDrawn d0) #[Value.ref b] m c cL_law 8 RL) (B : Hp G M s.heap H locs) (hr : meth.sig.returnType = ret) (hlocks : meth.locks = false) (hdg : decode cL_law pc = .ok (.ireturn, 1)) : W p l e room_1 (s.setDrawn d0) m #[Value.ref b] below meth c H locs 262 18807 (lw_Z below #[Value.ref b] s) (F0 m pc ls [.int (jI 1)]) := by
  refine va_forget (fun q hq => Nat.le_trans hGb (B.2.1.2.2 q hq).1) ?_
  refine W.widen (k := 600000) (n := 7302250) (Nat.le_of_ble_eq_true rfl) (Nat.le_of_ble_eq_true rfl) ?_
  exact lw_ret hd C.1 C.2.1 hr hlocks hdg
