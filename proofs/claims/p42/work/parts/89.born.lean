/-! THE OBJECTS ARE MADE: cell number j lies at G.2.2 + j; E tells what each holds, n are there so far -/
def gV (b n : Nat) (E : Nat → va_E) : va_W := (List.range n).map (fun k => (b + k, E k))
def eU (E : Nat → va_E) (k : Nat) (e : va_E) : Nat → va_E := fun j => if j = k then e else E j
theorem eU_eq {E : Nat → va_E} {k : Nat} {e : va_E} : eU E k e k = e := if_pos rfl
theorem eU_ne {E : Nat → va_E} {k j : Nat} {e : va_E} (h : j ≠ k) : eU E k e j = E j := if_neg h
def gB (G : jG) : Nat → Prop := fun q => G.2.2 ≤ q
theorem gV_get {b n k : Nat} {E : Nat → va_E} (h : k < n) : (gV b n E)[k]? = some (b + k, E k) := by
  unfold gV
  rw [List.getElem?_map, List.getElem?_range h]
  rfl
theorem gV_len {b n : Nat} {E : Nat → va_E} : (gV b n E).length = n := by simp [gV]
theorem gV_set {b n k : Nat} {E : Nat → va_E} {e : va_E} (h : k < n) : (gV b n E).set k (b + k, e) = gV b n (eU E k e) := by
  apply List.ext_getElem?
  intro j
  rw [List.getElem?_set, gV_len]
  by_cases hj : j < n
  · rw [gV_get hj, gV_get hj]
    by_cases z : k = j
    · subst z
      rw [if_pos rfl, if_pos h, eU_eq]
    · rw [if_neg z, eU_ne (fun q => z q.symm)]
  · rw [List.getElem?_eq_none (l := gV b n (eU E k e)) (by rw [gV_len]; omega), if_neg (by omega), List.getElem?_eq_none (by rw [gV_len]; omega)]
theorem gV_push {b n : Nat} {E : Nat → va_E} {e : va_E} : gV b n E ++ [(b + n, e)] = gV b (n + 1) (eU E n e) := by
  unfold gV
  rw [List.range_succ, List.map_append, List.map_cons, List.map_nil, eU_eq]
  congr 1
  apply List.map_congr_left
  intro k hk
  rw [eU_ne (by have := List.mem_range.mp hk; omega)]
theorem gV_D {G : jG} {n : Nat} {E : Nat → va_E} : va_D (gB G) (gV G.2.2 n E) := by
  have key : ∀ (k : Nat) (q : Nat × va_E), (gV G.2.2 n E)[k]? = some q → q.1 = G.2.2 + k := by
    intro k q hq
    by_cases hk : k < n
    · rw [gV_get hk] at hq
      rw [← Option.some.inj hq]
    · rw [List.getElem?_eq_none (by rw [gV_len]; omega)] at hq
      cases hq
  refine ⟨fun i j p q hi hj e => ?_, fun k q hk => ?_⟩
  · have a := key i p hi
    have b := key j q hj
    omega
  · have a := key k q hk
    unfold gB
    omega
def Kq (G : jG) (n : Nat) (E : Nat → va_E) (H0 H : Heap) (locs : List Loc) : Prop := va_P G.1 vwCl (gV G.2.2 n E) H ∧ va_S (gB G) H0 H locs
theorem gq_new {G : jG} {n q : Nat} {E : Nat → va_E} {e : va_E} {H1 : Heap} (hP : va_P G.1 vwCl (gV G.2.2 n E ++ [(q, e)]) H1) (hD : va_D (gB G) (gV G.2.2 n E ++ [(q, e)])) (hz : H1.size ≤ G.2.2 + n + 1) : q = G.2.2 + n := by
  have hn : (gV G.2.2 n E ++ [(q, e)])[n]? = some (q, e) := by
    rw [List.getElem?_append_right (by rw [gV_len]; omega), gV_len, Nat.sub_self]
    rfl
  have h1 : q < H1.size := (hP n (q, e) hn).lt
  have h2 : G.2.2 ≤ q := hD.2 n (q, e) hn
  rcases Nat.lt_or_ge q (G.2.2 + n) with z | z
  · have hj : (gV G.2.2 n E ++ [(q, e)])[q - G.2.2]? = some (G.2.2 + (q - G.2.2), E (q - G.2.2)) := by
      rw [List.getElem?_append_left (by rw [gV_len]; omega), gV_get (by omega)]
    have := hD.1 (q - G.2.2) n _ _ hj hn (by show G.2.2 + (q - G.2.2) = q; omega)
    omega
  · omega
theorem gq_size {G : jG} {n : Nat} {E : Nat → va_E} {H : Heap} (hP : va_P G.1 vwCl (gV G.2.2 (n + 1) E) H) : G.2.2 + (n + 1) ≤ H.size := by
  have := (hP n _ (gV_get (by omega))).lt
  have h : G.2.2 + n < H.size := this
  omega
theorem va_RA_inj {U : State} {cA cB : ClassId} {ty : FieldType} (h1 : va_RA U cA ty) (h2 : va_RA U cB ty) : cA = cB := by
  cases ty with
  | object C =>
    obtain ⟨_, _, _, _, _, h4⟩ := h1
    obtain ⟨_, _, _, _, _, g4⟩ := h2
    exact Option.some.inj (h4.symm.trans g4)
  | _ => exact Option.some.inj (Eq.trans (Eq.symm h1) h2)
def AO (U : State) : Prop := va_AO RX1 U ∧ va_AO RX4 U
theorem AO.moved {u U : State} (hv : u.vm.Alike U.vm) (h : AO u) : AO U := ⟨va_AO.moved hv h.1, va_AO.moved hv h.2⟩
def kPc (G : jG) (n : Nat) (E : Nat → va_E) (av : List Value) : Array Value → State → Prop := va_Pc av (fun U => va_P G.1 vwCl (gV G.2.2 n E) U.heap ∧ KK G U ∧ AO U ∧ U.heap.size = G.2.2 + n)
theorem kPc_blind {G : jG} {n : Nat} {E : Nat → va_E} {av : List Value} : FrameBlind (kPc G n E av) := fun a U g mk q => ⟨q.1, q.2.1, KK.same (u := U) (U := U.calling g mk a) rfl q.2.2.1, AO.moved (u := U) (U := U.calling g mk a) (Vm.Alike.refl U.vm) q.2.2.2.1, q.2.2.2.2⟩
def kQ (G : jG) (n : Nat) (post : (Nat → va_E) → Prop) : Array Value → State → Outcome → State → Prop := va_Qv (fun (u : Nat → va_E) => post u) (fun u t => va_P G.1 vwCl (gV G.2.2 n u) t.heap) (gB G)
theorem kr_start {l : Launch} {y : MethodName} {b : ByteArray} {n : Nat} {rm : Room} {G : jG} {nn : Nat} {E : Nat → va_E} {av : List Value} {Qc : Array Value → State → Outcome → State → Prop} {mc ms : Nat} (own : String) (ho : y.cls = own) (hy : plainName y.cls = true) (hlen : (lg_sl av).length ≤ n)
    (body : ∀ (p : Program) (e : Env) (s : State) (m : MethodId) (args : Array Value) (below : List Frame) (meth : Method) (c : Code) (ls : Array Slot), Cx G p s args m c b n own → AO s → s.heap.size = G.2.2 + nn → meth.name = y.name → meth.sig.returnType = none → meth.locks = false → lv_has ls n (lv_args 0 av) → Kq G nn E s.heap s.heap [] → W p l e rm s m args below meth c s.heap [] 0 0 (MQ below Qc args s mc ms (gB G)) (F0 m 0 ls [])) : Met l y (wsG y b n none) rm (kPc G nn E av) Qc mc ms (gB G) := by
  refine Met.ofW (cc := b) (maxL := n) (ret := none) hy rfl ?_
  intro p e s m args below meth c s₁ B hml hv
  obtain ⟨rfl, hP, hK, hA, hz⟩ := hv
  have hl := lv_entry av (n := n) hlen
  rw [lg_entry_eq]
  generalize (lg_sl av ++ List.replicate (n - (lg_sl av).length) Slot.unset).toArray = ls at hl ⊢
  have hts := atoms_spec (ws := wsG y b n none) B.pre
  exact body p e s m _ below meth c ls ⟨B.exec, B.bytes, hml, by rw [← ho]; exact findClass_of_methodNamed B.named, fun w hw => hts w (List.mem_cons_of_mem _ hw), hK⟩ hA hz (name_of_methodNamed B.named B.method).1 B.returns B.notSynchronized hl ⟨hP, va_S.rf⟩
section KR
variable {p : Program} {l : Launch} {e : Env} {R : Room} {s : State} {m : MethodId} {args : Array Value} {below : List Frame} {meth : Method} {c : Code} {H : Heap} {locs : List Loc} {cells slots : Nat} {Q : State → Prop} {cc : ByteArray} {nL : Nat} {own : String} {G : jG} {n : Nat} {E : Nat → va_E} {H0 : Heap} {pc : Nat} {ls : Array Slot} {rest : List Value}
theorem kr_sz (kk : H.size ≤ s.heap.size + cells → W p l e R s m args below meth c H locs cells slots Q (F0 m pc ls rest)) : W p l e R s m args below meth c H locs cells slots Q (F0 m pc ls rest) := fun T hT X => kk (by rw [← hT]; exact X.heapSize) T hT X
theorem kr_vret {post : (Nat → va_E) → Prop} (C : Cx G p s args m c cc nL own) (B : Kq G n E s.heap H locs) (hr : meth.sig.returnType = none) (hlocks : meth.locks = false) (h : post E) (hdg : decode cc pc = .ok (.return_, 1)) : W p l e R s m args below meth c H locs cells slots (MQ below (kQ G n post) args s cells slots (gB G)) (F0 m pc ls []) :=
  W.vret C.1 C.2.1 hr (fun t ht _ => ⟨⟨E, rfl, h, by (dsimp only); rw [ht]; exact B.1⟩, B.2.F ht⟩) B.2.2.2 hdg hlocks
theorem kr_new (C : Cx G p s args m c cc nL own) (B : Kq G n E H0 H locs) {n1 ci idx N : Nat} {C' : String} {T : u_T} {fs : List Value} (hn1 : n1 = n + 1) (hz : s.heap.size + cells = G.2.2 + n) (hH0 : G.2.2 ≤ H0.size) (hcl : Cond.classLink own idx C' ∈ tb) (hinst : Cond.instantiable C' N ∈ tb) (hini : Cond.initialized C' ∈ tb) (hin : ∀ w ∈ u_ws C' T N, w ∈ tb) (ty : Nat → FieldType) (hty : ∀ k, k < N → parseFieldDescriptor (T k).2.2.1 = some (ty k)) (hc : vwCl[ci]? = some (C', T, N)) (hfs : ∀ j, j < N → defaultValue (ty j) = vp_V fs j) (hcells : cells + 1 ≤ R.cells) (hslots : slots + N ≤ R.slots) (hdg : decode cc pc = .ok (.new idx, 3))
    (kk : ∀ H1 : Heap, Kq G n1 (eU E n (.inr (ci, fs))) H0 H1 locs → W p l e R s m args below meth c H1 locs (cells + 1) (slots + N) Q (F0 m (pc + 3) ls (.ref (G.2.2 + n) :: rest))) : W p l e R s m args below meth c H locs cells slots Q (F0 m pc ls rest) := by
  refine va_new C.1 C.2.1 C.2.2.2.2.1 hin ty hty C.2.2.2.1 (C.2.2.2.2.1 _ hcl) (C.2.2.2.2.1 _ hinst) (C.2.2.2.2.1 _ hini) C.2.2.2.2.2.1 B.1 gV_D B.2 (fun q hq => Nat.le_trans hH0 hq) hc hfs hcells hslots hdg (fun q H1 hP hD hS => ?_)
  refine kr_sz (fun hsz => ?_)
  have hq := gq_new hP hD (by omega)
  subst hq
  subst hn1
  rw [gV_push] at hP
  exact kk H1 ⟨hP, hS⟩
theorem kr_newa (C : Cx G p s args m c cc nL own) (B : Kq G n E H0 H locs) {n1 tk : Nat} {atype : ArrayType} {ty : FieldType} {cA : ClassId} {i : Int32} {N' : Nat} (hn1 : n1 = n + 1) (hz : s.heap.size + cells = G.2.2 + n) (hH0 : G.2.2 ≤ H0.size) (harr : Cond.arrayClass (newarray.typeOf atype) ∈ tb) (hty : newarray.typeOf atype = ty) (hT : (gT G)[tk]? = some (cA, ty)) (hdef : defaultValue ty = .int 0) (hn : ¬ i < 0) (hN : i.toNatClampNeg = N') (hbytes : N' * componentBytes ty ≤ 536870912) (hcells : cells + 1 ≤ R.cells) (hslots : slots + N' ≤ R.slots) (hdg : decode cc pc = .ok (.newarray atype, 2))
    (kk : ∀ H1 : Heap, Kq G n1 (eU E n (.inl (cA, N', .inl (fun _ => 0)))) H0 H1 locs → W p l e R s m args below meth c H1 locs (cells + 1) (slots + N') Q (F0 m (pc + 2) ls (.ref (G.2.2 + n) :: rest))) : W p l e R s m args below meth c H locs cells slots Q (F0 m pc ls (.int i :: rest)) := by
  refine va_newa C.1 C.2.1 (C.2.2.2.2.1 _ harr) hty C.2.2.2.2.2.1 B.1 gV_D B.2 (fun q hq => Nat.le_trans hH0 hq) (a0 := (N', .inl (fun _ => 0))) (fun cA => by rw [vp_cell_i, hdef]) hn hN hbytes hcells hslots hdg (fun q cB H1 hK hP hD hS => ?_)
  refine kr_sz (fun hsz => ?_)
  have hq := gq_new hP hD (by omega)
  subst hq
  subst hn1
  have h1 := (hK.2 (gT G).length (cB, ty) (by rw [List.getElem?_append_right (Nat.le_refl _), Nat.sub_self]; rfl)).2
  have h2 := (C.2.2.2.2.2.1.2 tk _ hT).2
  have hcc : cB = cA := va_RA_inj h1 h2
  subst hcc
  rw [gV_push] at hP
  exact kk H1 ⟨hP, hS⟩
theorem kr_newq (C : Cx G p s args m c cc nL own) (B : Kq G n E H0 H locs) {n1 tk idx : Nat} {C' : String} {cA : ClassId} {i : Int32} {N' : Nat} (hn1 : n1 = n + 1) (hz : s.heap.size + cells = G.2.2 + n) (hH0 : G.2.2 ≤ H0.size) (hcl : Cond.classLink own idx C' ∈ tb) (hover : va_AO C' s) (hT : (gT G)[tk]? = some (cA, .object C')) (hn : ¬ i < 0) (hN : i.toNatClampNeg = N') (hbytes : N' * 4 ≤ 536870912) (hcells : cells + 1 ≤ R.cells) (hslots : slots + N' ≤ R.slots) (hdg : decode cc pc = .ok (.anewarray idx, 3))
    (kk : ∀ H1 : Heap, Kq G n1 (eU E n (.inl (cA, N', .inr (.inr (.inr (.inr (fun _ => none))))))) H0 H1 locs → W p l e R s m args below meth c H1 locs (cells + 1) (slots + N') Q (F0 m (pc + 3) ls (.ref (G.2.2 + n) :: rest))) : W p l e R s m args below meth c H locs cells slots Q (F0 m pc ls (.int i :: rest)) := by
  refine va_newq C.1 C.2.1 C.2.2.2.1 (C.2.2.2.2.1 _ hcl) hover C.2.2.2.2.2.1 B.1 gV_D B.2 (fun q hq => Nat.le_trans hH0 hq) hn hN hbytes hcells hslots hdg (fun q cB H1 hK hP hD hS => ?_)
  refine kr_sz (fun hsz => ?_)
  have hq := gq_new hP hD (by omega)
  subst hq
  subst hn1
  have h1 := (hK.2 (gT G).length (cB, .object C') (by rw [List.getElem?_append_right (Nat.le_refl _), Nat.sub_self]; rfl)).2
  have h2 := (C.2.2.2.2.2.1.2 tk _ hT).2
  have hcc : cB = cA := va_RA_inj h1 h2
  subst hcc
  rw [gV_push] at hP
  exact kk H1 ⟨hP, hS⟩
theorem kr_get (C : Cx G p s args m c cc nL own) (B : Kq G n E H0 H locs) {ci idx N k : Nat} {R' : String} {T : u_T} {fs : List Value} (hk : k < n) (he : E k = .inr (ci, fs)) (hc : vwCl[ci]? = some (R', T, N)) (hin : ∀ w ∈ u_ws R' T N, w ∈ tb) (j : Nat) (hj : j < N) (hl : Cond.fieldLink own idx (T j).1 (T j).2.1 (T j).2.2.1 ∈ tb) {v : Value} (hv : fs[j]? = some v) (hdg : decode cc pc = .ok (.getfield idx, 3))
    (kk : W p l e R s m args below meth c H locs cells slots Q (F0 m (pc + 3) ls (v :: rest))) : W p l e R s m args below meth c H locs cells slots Q (F0 m pc ls (.ref (G.2.2 + k) :: rest)) :=
  va_get C.1 C.2.1 C.2.2.2.2.1 hin C.2.2.2.1 C.2.2.2.2.2.1 B.1 k (by rw [gV_get hk, he]) hc j hj (C.2.2.2.2.1 _ hl) (fun x h => h) hv hdg kk
theorem kr_put (C : Cx G p s args m c cc nL own) (B : Kq G n E H0 H locs) {ci idx N k : Nat} {R' : String} {T : u_T} {fs : List Value} (hk : k < n) (he : E k = .inr (ci, fs)) (hc : vwCl[ci]? = some (R', T, N)) (hin : ∀ w ∈ u_ws R' T N, w ∈ tb) (ty0 : Nat → FieldType) (hty : ∀ k, k < N → parseFieldDescriptor (T k).2.2.1 = some (ty0 k)) (hnm : ∀ a, a < N → ∀ b, b < N → a ≠ b → (T a).2.1 ≠ (T b).2.1) (j : Nat) (hj : j < N) (hl : Cond.fieldLink own idx (T j).1 (T j).2.1 (T j).2.2.1 ∈ tb) (hfin : (T j).2.2.2 = false) {v : Value} (hn : narrow (ty0 j) v = v) (hfit : fits (ty0 j) v = true) (hlen : j < fs.length) (hdg : decode cc pc = .ok (.putfield idx, 3))
    (kk : ∀ (H1 : Heap) (locs1 : List Loc), Kq G n (eU E k (.inr (ci, fs.set j v))) H0 H1 locs1 → W p l e R s m args below meth c H1 locs1 cells slots Q (F0 m (pc + 3) ls rest)) : W p l e R s m args below meth c H locs cells slots Q (F0 m pc ls (v :: .ref (G.2.2 + k) :: rest)) := by
  refine va_put C.1 C.2.1 C.2.2.2.2.1 hin ty0 hty hnm C.2.2.2.1 C.2.2.2.2.2.1 B.1 gV_D B.2 k (by rw [gV_get hk, he]) hc j hj (C.2.2.2.2.1 _ hl) (fun x h => h) hfin (hty j hj) hn hfit hlen hdg (fun H1 locs1 hP _ hS => kk H1 locs1 ⟨?_, hS⟩)
  rw [gV_set hk] at hP
  exact hP
theorem kr_putF (C : Cx G p s args m c cc nL own) (B : Kq G n E H0 H locs) (hini : meth.name = "<init>") {ci idx N k : Nat} {R' : String} {T : u_T} {fs : List Value} (hk : k < n) (he : E k = .inr (ci, fs)) (hc : vwCl[ci]? = some (R', T, N)) (hin : ∀ w ∈ u_ws R' T N, w ∈ tb) (ty0 : Nat → FieldType) (hty : ∀ k, k < N → parseFieldDescriptor (T k).2.2.1 = some (ty0 k)) (hnm : ∀ a, a < N → ∀ b, b < N → a ≠ b → (T a).2.1 ≠ (T b).2.1) (j : Nat) (hj : j < N) (hl : Cond.fieldLink own idx (T j).1 (T j).2.1 (T j).2.2.1 ∈ tb) (hfin : (T j).2.2.2 = true) (hdecl : (T j).1 = own) {v : Value} (hn : narrow (ty0 j) v = v) (hfit : fits (ty0 j) v = true) (hlen : j < fs.length) (hdg : decode cc pc = .ok (.putfield idx, 3))
    (kk : ∀ (H1 : Heap) (locs1 : List Loc), Kq G n (eU E k (.inr (ci, fs.set j v))) H0 H1 locs1 → W p l e R s m args below meth c H1 locs1 cells slots Q (F0 m (pc + 3) ls rest)) : W p l e R s m args below meth c H locs cells slots Q (F0 m pc ls (v :: .ref (G.2.2 + k) :: rest)) := by
  refine va_putF C.1 C.2.1 C.2.2.2.2.1 hin ty0 hty hnm C.2.2.2.1 C.2.2.2.2.2.1 B.1 gV_D B.2 k (by rw [gV_get hk, he]) hc j hj (C.2.2.2.2.1 _ hl) (fun x h => h) hfin hini hdecl (hty j hj) hn hfit hlen hdg (fun H1 locs1 hP _ hS => kk H1 locs1 ⟨?_, hS⟩)
  rw [gV_set hk] at hP
  exact hP
theorem kr_iast (C : Cx G p s args m c cc nL own) (B : Kq G n E H0 H locs) {k N' : Nat} {f : Nat → Int32} {i x : Int32} (hk : k < n) (he : E k = .inl (G.2.1.1, N', .inl f)) (hin : vp_in i N') (hdg : decode cc pc = .ok (.iastore, 1))
    (kk : ∀ (H1 : Heap) (locs1 : List Loc), Kq G n (eU E k (.inl (G.2.1.1, N', .inl (upd f i.toNatClampNeg x)))) H0 H1 locs1 → W p l e R s m args below meth c H1 locs1 cells slots Q (F0 m (pc + 1) ls rest)) : W p l e R s m args below meth c H locs cells slots Q (F0 m pc ls (.int x :: .int i :: .ref (G.2.2 + k) :: rest)) := by
  refine va_iast C.1 C.2.1 C.2.2.2.2.2.1 B.1 gV_D B.2 k 0 (by rw [gV_get hk, he]) rfl hin hdg (fun H1 locs1 hP _ hS => kk H1 locs1 ⟨?_, hS⟩)
  rw [gV_set hk] at hP
  exact hP
theorem kr_zast (C : Cx G p s args m c cc nL own) (B : Kq G n E H0 H locs) {k N' : Nat} {f : Nat → Int32} {i x : Int32} (hk : k < n) (he : E k = .inl (G.2.1.2.1, N', .inl f)) (hin : vp_in i N') (hdg : decode cc pc = .ok (.bastore, 1))
    (kk : ∀ (H1 : Heap) (locs1 : List Loc), Kq G n (eU E k (.inl (G.2.1.2.1, N', .inl (upd f i.toNatClampNeg (vp_nar .boolean x))))) H0 H1 locs1 → W p l e R s m args below meth c H1 locs1 cells slots Q (F0 m (pc + 1) ls rest)) : W p l e R s m args below meth c H locs cells slots Q (F0 m pc ls (.int x :: .int i :: .ref (G.2.2 + k) :: rest)) := by
  refine va_zast C.1 C.2.1 C.2.2.2.2.2.1 B.1 gV_D B.2 k 1 (by rw [gV_get hk, he]) rfl hin hdg (fun H1 locs1 hP _ hS => kk H1 locs1 ⟨?_, hS⟩)
  rw [gV_set hk] at hP
  exact hP
theorem kr_astq (C : Cx G p s args m c cc nL own) (B : Kq G n E H0 H locs) {k k2 N' ci tk : Nat} {cA : ClassId} {r : vw_C} {vs : List Value} {f : Nat → Option Nat} {i : Int32} (hk : k < n) (he : E k = .inl (cA, N', .inr (.inr (.inr (.inr f))))) (hT : (gT G)[tk]? = some (cA, .object r.1)) (hk2 : k2 < n) (he2 : E k2 = .inr (ci, vs)) (hc : vwCl[ci]? = some r) (hin : vp_in i N') (hdg : decode cc pc = .ok (.aastore, 1))
    (kk : ∀ (H1 : Heap) (locs1 : List Loc), Kq G n (eU E k (.inl (cA, N', .inr (.inr (.inr (.inr (va_up f i.toNatClampNeg (some (G.2.2 + k2))))))))) H0 H1 locs1 → W p l e R s m args below meth c H1 locs1 cells slots Q (F0 m (pc + 1) ls rest)) : W p l e R s m args below meth c H locs cells slots Q (F0 m pc ls (.ref (G.2.2 + k2) :: .int i :: .ref (G.2.2 + k) :: rest)) := by
  refine va_astq C.1 C.2.1 C.2.2.2.2.2.1 B.1 gV_D B.2 k tk k2 ci (by rw [gV_get hk, he]) hT (by rw [gV_get hk2, he2]) hc hin hdg (fun H1 locs1 hP _ hS => kk H1 locs1 ⟨?_, hS⟩)
  rw [gV_set hk] at hP
  exact hP
theorem kr_obj (C : Cx G p s args m c cc nL own) (hl : ls.size = nL) {idx : Nat} {a : Nat} (q1 : Cond.methodLink own idx objectInit ∈ tb) (q2 : Cond.instanceMethod objectInit ∈ tb) (q3 : Cond.code objectInit ⟨#[0xb1]⟩ 1 none ∈ tb) (hR : 1 ≤ R.frames ∧ 20 ≤ R.locals) (hW : (rest.map fun v => v.category).sum ≤ 8) (hdg : decode cc pc = .ok (.invokespecial idx, 3)) (kk : W p l e R s m args below meth c H locs cells slots Q (F0 m (pc + 3) ls rest)) : W p l e R s m args below meth c H locs cells slots Q (F0 m pc ls (.ref a :: rest)) := by
  refine W.objInit C.1 C.2.1 C.2.2.2.1 (C.2.2.2.2.1 _ q1) (C.2.2.2.2.1 _ q2) (C.2.2.2.2.1 _ q3) rfl (by rw [C.2.2.1]; exact hl) rfl hdg hR.1 ?_ ?_
  · have : 2 * (F0 m pc ls (.ref a :: rest)).monitorRoom = 0 := rfl
    omega
  · exact W.eq (g2 := F0 m (pc + 3) ls rest) rfl kk
theorem kr_call {y : MethodName} {bytes : ByteArray} {maxL na idx n' mc ms a : Nat} {rm : Room} {As st : List Value} {post : (Nat → va_E) → Prop} (C : Cx G p s args m c cc nL own) (hA : AO s) (hl : ls.size = nL) (B : Kq G n E H0 H locs) (hz : s.heap.size + cells = G.2.2 + n) (hn0 : 0 < n) (hM : Met l y (wsG y bytes maxL none) rm (kPc G n E (.ref a :: As)) (kQ G n' post) mc ms (gB G)) (q1 : Cond.methodLink own idx y ∈ tb) (hy : y.name = "<init>") (q2 : Cond.instanceMethod y ∈ tb) (q4 : Cond.code y bytes maxL none ∈ tb) (q5 : Cond.initialized y.cls ∈ tb) (hd : y.cls ≠ "java/lang/invoke/MethodHandle" ∧ y.cls ≠ "java/lang/invoke/VarHandle" ∧ (parseMethodDescriptor y.desc).map (fun d => d.parameters.length) = some na) (hn : As.length = na) (hrc : rm.cells = mc ∧ rm.slots = ms) (hR : rm.frames + 1 ≤ R.frames ∧ 8 + (maxL + 11) + rm.locals ≤ R.locals) (hcs : cells + mc ≤ R.cells ∧ slots + ms ≤ R.slots) (hst : st = As.reverse ++ .ref a :: rest) (hW : (rest.map fun v => v.category).sum ≤ 8) (hdg : decode cc pc = .ok (.invokespecial idx, 3))
    (kk : ∀ (u : Nat → va_E) (H1 : Heap) (locs1 : List Loc), post u → Kq G n' u H0 H1 locs1 → W p l e R s m args below meth c H1 locs1 (cells + mc) (slots + ms) Q (F0 m (pc + 3) ls rest)) : W p l e R s m args below meth c H locs cells slots Q (F0 m pc ls st) := by
  refine kr_sz (fun hsz => ?_)
  have hsize : H.size = G.2.2 + n := by
    obtain ⟨n0, rfl⟩ : ∃ z, n = z + 1 := ⟨n - 1, by omega⟩
    have := gq_size B.1
    omega
  refine va_callv (va_runI ⟨C.1, C.2.1, C.2.2.1, C.2.2.2.1, C.2.2.2.2.1⟩ hM ⟨callB_of na C.2.2.2.2.1 (wsG_good q4) rfl hrc.1 hrc.2 (C.2.2.2.2.1 _ q5) (C.2.2.2.2.1 _ q1) hd hR, hy, C.2.2.2.2.1 _ q2⟩ ⟨kPc_blind, fun U hU hW => ⟨rfl, by rw [hU]; exact B.1, C.2.2.2.2.2.warm hW, AO.moved hW.alike hA, by rw [hU]; exact hsize⟩⟩ rfl hn hl hst (lv_room hW) hdg hcs) B.2 (fun _ _ h => h) (fun _ h => h) (fun u t H1 locs1 ht _ hp hb _ _ hS => ?_)
  exact kk u H1 locs1 hp ⟨by rw [← ht]; exact hb, hS⟩
end KR
