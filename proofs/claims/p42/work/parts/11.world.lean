/-! the words: one list for every method (those that go down with every call) -/
def tb : List Cond := lw_tbl.filter goodWord
def wsG (y : MethodName) (b : ByteArray) (n : Nat) (r : Option FieldType) : List Cond := .code y b n r :: tb
theorem tb_mem {w : Cond} (h : w ∈ tables_1) (hg : goodWord w = true) : w ∈ tb := List.mem_filter.mpr ⟨List.mem_append_right _ h, hg⟩
theorem tb_sel {w : Cond} (h : w ∈ k2_sels lw_privs) (hg : goodWord w = true) : w ∈ tb := List.mem_filter.mpr ⟨List.mem_append_left _ h, hg⟩
theorem tb_good : GoodIn tb tb := fun w h => ⟨h, good_of_word (List.mem_filter.mp h).2⟩
theorem wsG_good {y : MethodName} {b : ByteArray} {n : Nat} {r : Option FieldType} (h : Cond.code y b n r ∈ tb) : GoodIn tb (wsG y b n r) := by
  intro w hw
  rcases List.mem_cons.mp hw with rfl | hw
  · exact ⟨h, good_of_word (List.mem_filter.mp h).2⟩
  · exact tb_good w hw
/-! the world -/
def gT (G : jG) : List (ClassId × FieldType) := [(G.2.1.1, .int), (G.2.1.2.1, .boolean), (G.2.1.2.2.1, .char), (G.2.1.2.2.2.1, .object RX1), (G.2.1.2.2.2.2, .object RX4)]
def jD (G : jG) (c : Int) : Nat := G.2.2 + c.toNat
def jE (G : jG) (M : jM) (c : Int) : va_E :=
  if jK c = 1 then .inr (0, [.ref (jD G (c + 1)), .ref (jD G (c + 2)), .ref (jD G (c + 3)), .int (jI (M c 3)), .int (jI (M c 4))])
  else if jK c = 2 then .inr (1, [.int (jI (M c 0)), .int (jI (M c 1)), .ref (jD G (c + 1)), .ref (jD G (c + 2)), .ref (jD G (c + 3))])
  else if jK c = 3 then .inr (2, [.ref (jD G (c + 1)), .int (jI (M c 1))])
  else if jK c = 4 then .inr (3, [.ref (jD G (c + 1)), .int (jI (M c 1))])
  else if jK c = 5 then .inr (4, [.ref (jD G (c + 1)), .int (jI (M c 1)), .ref (jD G (c + 42)), .ref (jD G (c + 43)), .ref (jD G (c + 44)), .ref (jD G (c + 45)), .ref (jD G (c + 46))])
  else if jK c = 6 then .inr (5, [.ref (jD G (c + 1)), .int (jI (M c 1)), .int (jI (M c 2)), .int (jI (M c 3)), .int (jI (M c 4))])
  else if jK c = 7 then .inr (6, [.ref (jD G (c + 1)), .ref (jD G (c + 48)), .int (jI (M c 2)), .ref (jD G (c + 237)), .ref (jD G (c + 239)), .ref (jD G (c + 241)), .ref (jD G (c + 246)), .ref (jD G (c + 248))])
  else if jK c / 10000 = 1 then .inl (G.2.1.1, (jK c % 10000).toNat, .inl (fun j => jI (M c j)))
  else if jK c / 10000 = 2 then .inl (G.2.1.2.1, (jK c % 10000).toNat, .inl (fun j => jI (M c j)))
  else if jK c / 10000 = 3 then .inl (G.2.1.2.2.1, (jK c % 10000).toNat, .inl (fun j => jI (M c j)))
  else if jK c / 10000 = 4 then .inl (G.2.1.2.2.2.1, (jK c % 10000).toNat, .inr (.inr (.inr (.inr (fun j => some (jD G (M c j)))))))
  else .inl (G.2.1.2.2.2.2, (jK c % 10000).toNat, .inr (.inr (.inr (.inr (fun j => some (jD G (M c j)))))))
def gW (G : jG) (M : jM) : va_W := (List.range 252).map (fun n : Nat => (jD G (n : Int), jE G M (n : Int)))
def gA (G : jG) : Nat → Prop := fun q => G.2.2 ≤ q ∧ q < G.2.2 + 252
theorem jE_congr {G : jG} {M M' : jM} {c : Int} (h : M' c = M c) : jE G M' c = jE G M c := by unfold jE; rw [h]
theorem gW_get {G : jG} {M : jM} {c : Int} (h : jK c ≠ 0) : (gW G M)[c.toNat]? = some (jD G c, jE G M c) := by
  obtain ⟨n, h1, rfl⟩ := jK_in h
  simp [gW, h1]
theorem gW_set {G : jG} {M M' : jM} {c : Int} (h : jK c ≠ 0) (hM : ∀ x, x ≠ c → M' x = M x) : (gW G M).set c.toNat (jD G c, jE G M' c) = gW G M' := by
  obtain ⟨n, h1, rfl⟩ := jK_in h
  apply List.ext_getElem?
  intro k
  rw [List.getElem?_set]
  by_cases hk : k < 252
  · by_cases e : n = k
    · subst e
      simp [gW, h1]
    · have h2 : ¬ ((n : Int)).toNat = k := by omega
      rw [if_neg h2]
      simp only [gW, List.getElem?_map, List.getElem?_range hk, Option.map_some]
      rw [jE_congr (hM (k : Int) (by omega))]
  · have h2 : ¬ ((n : Int)).toNat = k := by omega
    rw [if_neg h2]
    simp [gW, hk]
theorem gW_D {G : jG} {M : jM} : va_D (gA G) (gW G M) := by
  have key : ∀ (k : Nat) (q : Nat × va_E), (gW G M)[k]? = some q → k < 252 ∧ q.1 = G.2.2 + k := by
    intro k q hq
    by_cases hk : k < 252
    · simp only [gW, List.getElem?_map, List.getElem?_range hk, Option.map_some, Option.some.injEq] at hq
      rw [← hq]
      exact ⟨hk, rfl⟩
    · simp [gW, hk] at hq
  refine ⟨fun i j p q hi hj e => ?_, fun k q hk => ?_⟩
  · have a := (key i p hi).2
    have b := (key j q hj).2
    omega
  · obtain ⟨a, b⟩ := key k q hk
    unfold gA
    omega
/-! what holds of the tables; of the machine at a method; of the heap -/
def KK (G : jG) (U : State) : Prop := va_K G.1 vwCl (gT G) U ∧ va_Nw (.methodLinkNest RX1 42 yX6_isBelow RX6) U ∧ va_Nw (.methodLinkNest RX3 27 yX6_isBelow RX6) U ∧ va_Nw (.methodLinkNest RX2 19 yX6_isBelow RX6) U
theorem KK.warm {G : jG} {s U : State} (hW : s.WarmedH U.vm) (h : KK G s) : KK G U := ⟨va_K.moved hW.alike h.1, va_Nw.warmM hW h.2.1, va_Nw.warmM hW h.2.2.1, va_Nw.warmM hW h.2.2.2⟩
theorem KK.same {G : jG} {u U : State} (hv : u.vm = U.vm) (h : KK G u) : KK G U := ⟨va_K.moved (by rw [hv]; exact Vm.Alike.refl _) h.1, va_Nw.same rfl hv h.2.1, va_Nw.same rfl hv h.2.2.1, va_Nw.same rfl hv h.2.2.2⟩
def Cx (G : jG) (p : Program) (s : State) (args : Array Value) (m : MethodId) (c : Code) (cc : ByteArray) (nL : Nat) (own : String) : Prop := p.tables.exec = Jvm.exec ∧ c.code = cc ∧ c.maxLocals = nL ∧ s.vm.findClass own = some m.cls ∧ (∀ w ∈ tb, w.before args s = true) ∧ KK G s
def Hp (G : jG) (M : jM) (H0 H : Heap) (locs : List Loc) : Prop := va_P G.1 vwCl (gW G M) H ∧ va_S (gA G) H0 H locs ∧ jOK M
def jPc (G : jG) (M : jM) (av : List Value) : Array Value → State → Prop := va_Pc av (fun U => va_P G.1 vwCl (gW G M) U.heap ∧ KK G U)
theorem jPc_blind {G : jG} {M : jM} {av : List Value} : FrameBlind (jPc G M av) := fun a U g mk q => ⟨q.1, q.2.1, KK.same (u := U) (U := U.calling g mk a) rfl q.2.2⟩
def qI (G : jG) (k : Int → jM → Prop) : Array Value → State → Outcome → State → Prop := va_Qi (fun (r : Int32) (u : Int × jM) => r = jI u.1 ∧ jR u.1 ∧ k u.1 u.2 ∧ jOK u.2) (fun u t => va_P G.1 vwCl (gW G u.2) t.heap) (gA G)
def qZ (G : jG) (k : Int → jM → Prop) : Array Value → State → Outcome → State → Prop := va_Qi (fun (r : Int32) (u : Int × jM) => r = jI u.1 ∧ (u.1 = 0 ∨ u.1 = 1) ∧ k u.1 u.2 ∧ jOK u.2) (fun u t => va_P G.1 vwCl (gW G u.2) t.heap) (gA G)
def qV (G : jG) (k : jM → Prop) : Array Value → State → Outcome → State → Prop := va_Qv (fun (u : jM) => k u ∧ jOK u) (fun u t => va_P G.1 vwCl (gW G u) t.heap) (gA G)
def qQ (G : jG) (k : Int → jM → Prop) : Array Value → State → Outcome → State → Prop := va_Qq (fun (r : Option Nat) (u : Int × jM) => r = (if u.1 < 0 then none else some (jD G u.1)) ∧ (u.1 < 0 ∨ jK u.1 = 2) ∧ k u.1 u.2 ∧ jOK u.2) (fun u t => va_P G.1 vwCl (gW G u.2) t.heap) (gA G)
/-- a reference that may be null -/
def jN (G : jG) (c : Int) : Value := va_rf (if c < 0 then none else some (jD G c))
theorem jN_null {G : jG} {c : Int} (h : c < 0) : jN G c = .null := by unfold jN; rw [if_pos h]; rfl
theorem jN_ref {G : jG} {c : Int} (h : ¬ c < 0) : jN G c = .ref (jD G c) := by unfold jN; rw [if_neg h]; rfl
theorem zR {v : Int} (h : v = 0 ∨ v = 1) : jR v := by rcases h with rfl | rfl <;> decide
