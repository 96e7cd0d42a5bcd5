/-! THE FIRST MEMORY -/
def mS (b d i : Int) : Int :=
  if d = 1 then (if 0 ≤ i ∧ i < 10 then b + 2 + 4 * i else b + 2) else if 2 ≤ d ∧ d < 42 ∧ (d - 2) % 4 = 0 then (if i = 1 then -1000007 else 0)
  else if d = 42 then (if i = 1 ∨ i = 2 then 1 else 0) else if d = 43 then (if i = 4 then 1 else if i = 5 then 4 else 0) else if d = 44 then (if 0 ≤ i ∧ i < 4 then i else if i = 5 then 1 else 0) else if d = 45 then (if i = 5 then 2 else 0) else 0
def mM : jM := fun c i =>
  if 1 ≤ c ∧ c < 48 then mS 1 (c - 1) i else if c = 48 then (if 0 ≤ i ∧ i < 4 then 49 + 47 * i else 49) else if 49 ≤ c ∧ c < 237 then mS (c - (c - 49) % 47) ((c - 49) % 47) i
  else if c = 242 then (if i = 1 then -1000007 else 0) else 0
theorem jD_n {G : jG} {c : Int} {n : Nat} (h : c = (n : Int)) : jD G c = G.2.2 + n := by
  unfold jD
  omega
/-- a record's cells as they are made -/
theorem rec_born {G : jG} {n : Nat} (h0 : jK (n : Int) = 2) (h1 : jK ((n : Int) + 1) = 10004) (h2 : jK ((n : Int) + 2) = 10020) (h3 : jK ((n : Int) + 3) = 10080) (m0 : ∀ i, mM (n : Int) i = if i = 1 then -1000007 else 0) (m1 : ∀ i, mM ((n : Int) + 1) i = 0) (m2 : ∀ i, mM ((n : Int) + 2) i = 0) (m3 : ∀ i, mM ((n : Int) + 3) i = 0) :
    jE G mM (n : Int) = .inr (1, [.int (jI 0), .int (jI (-1000007)), .ref (G.2.2 + (n + 1)), .ref (G.2.2 + (n + 2)), .ref (G.2.2 + (n + 3))]) ∧ jE G mM ((n : Int) + 1) = .inl (G.2.1.1, 4, .inl (fun _ => 0)) ∧ jE G mM ((n : Int) + 2) = .inl (G.2.1.1, 20, .inl (fun _ => 0)) ∧ jE G mM ((n : Int) + 3) = .inl (G.2.1.1, 80, .inl (fun _ => 0)) := by
  refine ⟨?_, ?_, ?_, ?_⟩
  · rw [jE2 h0, m0, m0, if_neg (by decide), if_pos rfl, jD_n (n := n + 1) (by omega), jD_n (n := n + 2) (by omega), jD_n (n := n + 3) (by omega)]
  · rw [jEi (n := 4) (by rw [h1]; rfl) (by rw [h1]; rfl)]
    simp only [m1]
    rfl
  · rw [jEi (n := 20) (by rw [h2]; rfl) (by rw [h2]; rfl)]
    simp only [m2]
    rfl
  · rw [jEi (n := 80) (by rw [h3]; rfl) (by rw [h3]; rfl)]
    simp only [m3]
    rfl
section KV
variable {p : Program} {l : Launch} {e : Env} {R : Room} {s : State} {m : MethodId} {args : Array Value} {below : List Frame} {meth : Method} {c : Code} {H : Heap} {locs : List Loc} {cells slots : Nat} {Q : State → Prop} {cc : ByteArray} {nL : Nat} {own : String} {G : jG} {n : Nat} {E : Nat → va_E} {H0 : Heap} {pc : Nat} {ls : Array Slot} {rest : List Value}
theorem kr_callV {y : MethodName} {bytes : ByteArray} {maxL na idx k ci N : Nat} {T : u_T} {fs : List Value} {rm : Room} {As st : List Value} {post : (Nat → va_E) → Prop} (C : Cx G p s args m c cc nL own) (hA : AO s) (hl : ls.size = nL) (B : Kq G n E H0 H locs) (hz : s.heap.size + cells = G.2.2 + n) (hk : k < n) (he : E k = .inr (ci, fs)) (hc : vwCl[ci]? = some (y.cls, T, N)) (hM : Met l y (wsG y bytes maxL none) rm (kPc G n E (.ref (G.2.2 + k) :: As)) (kQ G n post) 0 0 (gB G)) (q1 : Cond.methodLink own idx y ∈ tb) (q2 : Cond.instanceMethod y ∈ tb) (q3 : Cond.selects y.cls y y ∈ tb) (q4 : Cond.code y bytes maxL none ∈ tb) (q5 : Cond.initialized y.cls ∈ tb) (hd : y.cls ≠ "java/lang/invoke/MethodHandle" ∧ y.cls ≠ "java/lang/invoke/VarHandle" ∧ (parseMethodDescriptor y.desc).map (fun d => d.parameters.length) = some na) (hn : As.length = na) (hrc : rm.cells = 0 ∧ rm.slots = 0) (hR : rm.frames + 1 ≤ R.frames ∧ 8 + (maxL + 11) + rm.locals ≤ R.locals) (hcs : cells ≤ R.cells ∧ slots ≤ R.slots) (hst : st = As.reverse ++ .ref (G.2.2 + k) :: rest) (hW : (rest.map fun v => v.category).sum ≤ 8) (hdg : decode cc pc = .ok (.invokevirtual idx, 3))
    (kk : ∀ (u : Nat → va_E) (H1 : Heap) (locs1 : List Loc), post u → Kq G n u H0 H1 locs1 → W p l e R s m args below meth c H1 locs1 cells slots Q (F0 m (pc + 3) ls rest)) : W p l e R s m args below meth c H locs cells slots Q (F0 m pc ls st) := by
  refine kr_sz (fun hsz => ?_)
  have hsize : H.size = G.2.2 + n := by
    obtain ⟨n0, rfl⟩ : ∃ z, n = z + 1 := ⟨n - 1, by omega⟩
    have := gq_size B.1
    omega
  refine va_callv (va_runV ⟨C.1, C.2.1, C.2.2.1, C.2.2.2.1, C.2.2.2.2.1⟩ hM ⟨callB_of na C.2.2.2.2.1 (wsG_good q4) rfl hrc.1 hrc.2 (C.2.2.2.2.1 _ q5) (C.2.2.2.2.1 _ q1) hd hR, C.2.2.2.2.1 _ q2, C.2.2.2.2.1 _ q3⟩ ⟨kPc_blind, va_recv C.2.2.2.2.2.1 B.1 hc (q0 := k) (by rw [gV_get hk, he]), fun U hU hW => ⟨rfl, by rw [hU]; exact B.1, C.2.2.2.2.2.warm hW, AO.moved hW.alike hA, by rw [hU]; exact hsize⟩⟩ rfl hn hl hst (lv_room hW) hdg hcs) B.2 (fun _ _ h => h) (fun _ h => h) (fun u t H1 locs1 ht _ hp hb _ _ hS => ?_)
  exact kk u H1 locs1 hp ⟨by rw [← ht]; exact hb, hS⟩
end KV
theorem k_23 : (Cond.methodLink "MultiValueFile$State" (3 : Nat) ({ cls := "java/lang/Object", name := "<init>", desc := "()V" } : MethodName)) ∈ tb := tb_mem (List.mem_of_getElem? (i := 23) (by decide +kernel)) (by decide +kernel)
theorem k_24 : (Cond.classLink "MultiValueFile$State" (9 : Nat) "MultiValueFile$FileRecord") ∈ tb := tb_mem (List.mem_of_getElem? (i := 24) (by decide +kernel)) (by decide +kernel)
theorem k_27 : (Cond.methodLink "MultiValueFile$State" (17 : Nat) ({ cls := "MultiValueFile$FileRecord", name := "<init>", desc := "()V" } : MethodName)) ∈ tb := tb_mem (List.mem_of_getElem? (i := 27) (by decide +kernel)) (by decide +kernel)
theorem k_53 : (Cond.methodLink "MultiValueFile$State" (36 : Nat) ({ cls := "MultiValueFile$State", name := "setColumn", desc := "(IIII)V" } : MethodName)) ∈ tb := tb_mem (List.mem_of_getElem? (i := 53) (by decide +kernel)) (by decide +kernel)
theorem k_85 : (Cond.arrayClass ClassFile.FieldType.boolean) ∈ tb := tb_mem (List.mem_of_getElem? (i := 85) (by decide +kernel)) (by decide +kernel)
set_option maxHeartbeats 4000000 in
theorem b_setCol {l : Launch} {G : jG} {n k k3 k4 k5 : Nat} {E : Nat → va_E} {fs : List Value} {f3 f4 f5 : Nat → Int32} {a1 a2 a3 a4 : Int} (hk : k < n) (h3 : k3 < n) (h4 : k4 < n) (h5 : k5 < n) (hne : k3 ≠ k4 ∧ k3 ≠ k5 ∧ k4 ≠ k5 ∧ k ≠ k3 ∧ k ≠ k4 ∧ k ≠ k5) (hE : E k = .inr (4, fs)) (g3 : fs[3]? = some (.ref (G.2.2 + k3))) (g4 : fs[4]? = some (.ref (G.2.2 + k4))) (g5 : fs[5]? = some (.ref (G.2.2 + k5))) (e3 : E k3 = .inl (G.2.1.1, 6, .inl f3)) (e4 : E k4 = .inl (G.2.1.1, 6, .inl f4)) (e5 : E k5 = .inl (G.2.1.1, 6, .inl f5)) (hc : sCol a1) : Met l yX4_setColumn (wsG yX4_setColumn cX4_setColumn 5 none) { frames := 1, cells := 0, slots := 0, locals := 20 } (kPc G n E [.ref (G.2.2 + k), .int (jI a1), .int (jI a2), .int (jI a3), .int (jI a4)]) (kQ G n (fun u : Nat → va_E => (∀ j, j ≠ k3 → j ≠ k4 → j ≠ k5 → u j = E j) ∧ u k3 = .inl (G.2.1.1, 6, .inl (upd f3 a1.toNat (jI a2))) ∧ u k4 = .inl (G.2.1.1, 6, .inl (upd f4 a1.toNat (jI a3))) ∧ u k5 = .inl (G.2.1.1, 6, .inl (upd f5 a1.toNat (jI a4))))) 0 0 (gB G) := by
  refine kr_start RX4 rfl (by decide) (Nat.le_of_ble_eq_true rfl) ?_
  intro p e s m args below meth c ls C hA hz hini hr hlocks hl B
  have hl : lv_has ls 5 [(0, .ref (G.2.2 + k)), (1, .int (jI a1)), (2, .int (jI a2)), (3, .int (jI a3)), (4, .int (jI a4))] := hl
  obtain ⟨n1, n2, n3, n4, n5, n6⟩ := hne
  have hcl : (jI a1).toNatClampNeg = a1.toNat := jI_cl (by omega)
  refine lv_aload_n C.1 C.2.1 dX4_setColumn_0 rfl (lv_at hl 0 rfl) ?_
  refine kr_get C B (ci := 4) (N := 7) (k := k) (fs := fs) (by omega) (by first | exact hE | (simp (disch := omega) only [eU_ne, eU_eq]; exact hE)) rfl inT4 3 (by decide) q_63 g3 dX4_setColumn_1 ?_
  refine lv_iload_n C.1 C.2.1 dX4_setColumn_4 rfl (lv_at hl 1 rfl) ?_
  refine lv_iload_n C.1 C.2.1 dX4_setColumn_5 rfl (lv_at hl 2 rfl) ?_
  refine kr_iast C B (k := k3) (N' := 6) (f := f3) (by omega) (by first | exact e3 | (simp (disch := omega) only [eU_ne, eU_eq]; exact e3)) (jI_in (by omega) (by omega)) dX4_setColumn_6 (fun H locs B => ?_)
  refine lv_aload_n C.1 C.2.1 dX4_setColumn_7 rfl (lv_at hl 0 rfl) ?_
  refine kr_get C B (ci := 4) (N := 7) (k := k) (fs := fs) (by omega) (by first | exact hE | (simp (disch := omega) only [eU_ne, eU_eq]; exact hE)) rfl inT4 4 (by decide) q_65 g4 dX4_setColumn_8 ?_
  refine lv_iload_n C.1 C.2.1 dX4_setColumn_11 rfl (lv_at hl 1 rfl) ?_
  refine lv_iload_n C.1 C.2.1 dX4_setColumn_12 rfl (lv_at hl 3 rfl) ?_
  refine kr_iast C B (k := k4) (N' := 6) (f := f4) (by omega) (by first | exact e4 | (simp (disch := omega) only [eU_ne, eU_eq]; exact e4)) (jI_in (by omega) (by omega)) dX4_setColumn_13 (fun H locs B => ?_)
  refine lv_aload_n C.1 C.2.1 dX4_setColumn_14 rfl (lv_at hl 0 rfl) ?_
  refine kr_get C B (ci := 4) (N := 7) (k := k) (fs := fs) (by omega) (by first | exact hE | (simp (disch := omega) only [eU_ne, eU_eq]; exact hE)) rfl inT4 5 (by decide) q_67 g5 dX4_setColumn_15 ?_
  refine lv_iload_n C.1 C.2.1 dX4_setColumn_18 rfl (lv_at hl 1 rfl) ?_
  refine lv_iload C.1 C.2.1 dX4_setColumn_19 (lv_at hl 4 rfl) ?_
  refine kr_iast C B (k := k5) (N' := 6) (f := f5) (by omega) (by first | exact e5 | (simp (disch := omega) only [eU_ne, eU_eq]; exact e5)) (jI_in (by omega) (by omega)) dX4_setColumn_21 (fun H locs B => ?_)
  rw [hcl] at B
  exact kr_vret C B hr hlocks ⟨fun j j3 j4 j5 => (by simp (disch := omega) only [eU_ne, eU_eq]), (by simp (disch := omega) only [eU_ne, eU_eq]), (by simp (disch := omega) only [eU_ne, eU_eq]), (by simp (disch := omega) only [eU_ne, eU_eq])⟩ dX4_setColumn_22
theorem mS_0 {b d i : Int} (h : 2 ≤ d ∧ d < 42 ∧ (d - 2) % 4 ≠ 0) : mS b d i = 0 := by
  unfold mS
  rw [if_neg (by omega), if_neg (by omega), if_neg (by omega), if_neg (by omega), if_neg (by omega), if_neg (by omega)]
theorem st_42 {b : Int} : (fun j : Nat => jI (mS b 42 (j : Int))) = (upd (upd (fun _ => 0) (jI 1).toNatClampNeg (vp_nar .boolean (jI 1))) (jI 2).toNatClampNeg (vp_nar .boolean (jI 1))) := by
  funext j
  rcases (by omega : j = 0 ∨ j = 1 ∨ j = 2 ∨ j = 3 ∨ j = 4 ∨ j = 5 ∨ 6 ≤ j) with rfl | rfl | rfl | rfl | rfl | rfl | h
  · simp [mS, upd, vp_nar]; try decide
  · simp [mS, upd, vp_nar]; try decide
  · simp [mS, upd, vp_nar]; try decide
  · simp [mS, upd, vp_nar]; try decide
  · simp [mS, upd, vp_nar]; try decide
  · simp [mS, upd, vp_nar]; try decide
  · have e2 : mS b 42 (j : Int) = 0 := by simp [mS]; omega
    rw [e2]
    have a : ∀ t : Nat, t < 6 → ¬ j = t := fun t ht => by omega
    simp only [upd]
    repeat rw [if_neg (by first | omega | (intro q; have : (jI 1).toNatClampNeg = 1 := rfl; have : (jI 2).toNatClampNeg = 2 := rfl; omega))]
    rfl
theorem st_43 {b : Int} : (fun j : Nat => jI (mS b 43 (j : Int))) = (upd (upd (upd (upd (upd (upd (fun _ => 0) (Int.toNat 0) (jI 0)) (Int.toNat 1) (jI 0)) (Int.toNat 2) (jI 0)) (Int.toNat 3) (jI 0)) (Int.toNat 4) (jI 1)) (Int.toNat 5) (jI 4)) := by
  funext j
  rcases (by omega : j = 0 ∨ j = 1 ∨ j = 2 ∨ j = 3 ∨ j = 4 ∨ j = 5 ∨ 6 ≤ j) with rfl | rfl | rfl | rfl | rfl | rfl | h
  · simp [mS, upd, vp_nar]; try decide
  · simp [mS, upd, vp_nar]; try decide
  · simp [mS, upd, vp_nar]; try decide
  · simp [mS, upd, vp_nar]; try decide
  · simp [mS, upd, vp_nar]; try decide
  · simp [mS, upd, vp_nar]; try decide
  · have e2 : mS b 43 (j : Int) = 0 := by simp [mS]; omega
    rw [e2]
    have a : ∀ t : Nat, t < 6 → ¬ j = t := fun t ht => by omega
    simp only [upd]
    repeat rw [if_neg (by first | omega | (intro q; have : (jI 1).toNatClampNeg = 1 := rfl; have : (jI 2).toNatClampNeg = 2 := rfl; omega))]
    rfl
theorem st_44 {b : Int} : (fun j : Nat => jI (mS b 44 (j : Int))) = (upd (upd (upd (upd (upd (upd (fun _ => 0) (Int.toNat 0) (jI 0)) (Int.toNat 1) (jI 1)) (Int.toNat 2) (jI 2)) (Int.toNat 3) (jI 3)) (Int.toNat 4) (jI 0)) (Int.toNat 5) (jI 1)) := by
  funext j
  rcases (by omega : j = 0 ∨ j = 1 ∨ j = 2 ∨ j = 3 ∨ j = 4 ∨ j = 5 ∨ 6 ≤ j) with rfl | rfl | rfl | rfl | rfl | rfl | h
  · simp [mS, upd, vp_nar]; try decide
  · simp [mS, upd, vp_nar]; try decide
  · simp [mS, upd, vp_nar]; try decide
  · simp [mS, upd, vp_nar]; try decide
  · simp [mS, upd, vp_nar]; try decide
  · simp [mS, upd, vp_nar]; try decide
  · have e2 : mS b 44 (j : Int) = 0 := by simp [mS]; omega
    rw [e2]
    have a : ∀ t : Nat, t < 6 → ¬ j = t := fun t ht => by omega
    simp only [upd]
    repeat rw [if_neg (by first | omega | (intro q; have : (jI 1).toNatClampNeg = 1 := rfl; have : (jI 2).toNatClampNeg = 2 := rfl; omega))]
    rfl
theorem st_45 {b : Int} : (fun j : Nat => jI (mS b 45 (j : Int))) = (upd (upd (upd (upd (upd (upd (fun _ => 0) (Int.toNat 0) (jI 0)) (Int.toNat 1) (jI 0)) (Int.toNat 2) (jI 0)) (Int.toNat 3) (jI 0)) (Int.toNat 4) (jI 0)) (Int.toNat 5) (jI 2)) := by
  funext j
  rcases (by omega : j = 0 ∨ j = 1 ∨ j = 2 ∨ j = 3 ∨ j = 4 ∨ j = 5 ∨ 6 ≤ j) with rfl | rfl | rfl | rfl | rfl | rfl | h
  · simp [mS, upd, vp_nar]; try decide
  · simp [mS, upd, vp_nar]; try decide
  · simp [mS, upd, vp_nar]; try decide
  · simp [mS, upd, vp_nar]; try decide
  · simp [mS, upd, vp_nar]; try decide
  · simp [mS, upd, vp_nar]; try decide
  · have e2 : mS b 45 (j : Int) = 0 := by simp [mS]; omega
    rw [e2]
    have a : ∀ t : Nat, t < 6 → ¬ j = t := fun t ht => by omega
    simp only [upd]
    repeat rw [if_neg (by first | omega | (intro q; have : (jI 1).toNatClampNeg = 1 := rfl; have : (jI 2).toNatClampNeg = 2 := rfl; omega))]
    rfl
theorem st_46 {b : Int} : (fun j : Nat => jI (mS b 46 (j : Int))) = fun _ => 0 := by
  funext j
  simp [mS]
  rfl
set_option maxHeartbeats 8000000 in
theorem b_X4 {l : Launch} {G : jG} {b : Nat} {E : Nat → va_E} (hb : ∀ d : Int, 0 ≤ d → d < 47 → jK ((b : Int) + d) = jKs d ∧ ∀ i, mM ((b : Int) + d) i = mS b d i) (hE : E b = .inr (4, [.null, .int 0, .null, .null, .null, .null, .null])) : Met l yX4_init (wsG yX4_init cX4_init 2 none) { frames := 2, cells := 46, slots := 1922, locals := 60 } (kPc G (b + 1) E [.ref (G.2.2 + b)]) (kQ G (b + 47) (fun u : Nat → va_E => (∀ j, j < b → u j = E j) ∧ (∀ j : Nat, b ≤ j → j < b + 47 → j ≠ b + 1 → u j = jE G mM (j : Int)) ∧ u (b + 1) = .inl (G.2.1.2.2.2.1, 10, .inr (.inr (.inr (.inr (fun j => if j < 10 then some (G.2.2 + (b + 2 + 4 * j)) else none))))))) 46 1922 (gB G) := by
  refine kr_start RX4 rfl (by decide) (Nat.le_of_ble_eq_true rfl) ?_
  intro p e s m args below meth c ls C hA hz hini hr hlocks hl B
  have hini : meth.name = "<init>" := hini
  have hl : lv_has ls 2 [(0, .ref (G.2.2 + b))] := hl
  have rest : ∀ (E1 : Nat → va_E) (H : Heap) (locs : List Loc) (ls : Array Slot), (∀ j, j < b → E1 j = E j) → E1 b = .inr (4, [.ref (G.2.2 + (b + 1)), .int 0, .null, .null, .null, .null, .null]) → E1 (b + 1) = .inl (G.2.1.2.2.2.1, 10, .inr (.inr (.inr (.inr (fun j => if j < 10 then some (G.2.2 + (b + 2 + 4 * j)) else none))))) → (∀ j : Nat, b + 2 ≤ j → j < b + 42 → E1 j = jE G mM (j : Int)) → Kq G (b + 42) E1 s.heap H locs → lv_has ls 2 [(1, .int (jI 10)), (0, .ref (G.2.2 + b))] → W p l e { frames := 2, cells := 46, slots := 1922, locals := 60 } s m args below meth c H locs 41 1100 (MQ below (kQ G (b + 47) (fun u : Nat → va_E => (∀ j, j < b → u j = E j) ∧ (∀ j : Nat, b ≤ j → j < b + 47 → j ≠ b + 1 → u j = jE G mM (j : Int)) ∧ u (b + 1) = .inl (G.2.1.2.2.2.1, 10, .inr (.inr (.inr (.inr (fun j => if j < 10 then some (G.2.2 + (b + 2 + 4 * j)) else none))))))) args s 46 1922 (gB G)) (F0 m 40 ls []) := by
    intro E1 H locs ls p1 hE p3 p4 B hl
    refine lv_aload_n C.1 C.2.1 dX4_init_40 rfl (lv_at hl 1 rfl) ?_
    refine jr_iconst C dX4_init_41 ?_
    refine kr_put C B (ci := 4) (N := 7) (k := b) (fs := [.ref (G.2.2 + (b + 1)), .int 0, .null, .null, .null, .null, .null]) (by omega) (by first | (simp (disch := omega) only [eU_ne, eU_eq]; done) | (simp (disch := omega) only [eU_ne, eU_eq]; rfl) | (simp (disch := omega) only [eU_ne, eU_eq]; exact hE) | exact hE | rfl) rfl inT4 tyX4 tyX4_ok nmX4 1 (by decide) q_59 rfl rfl rfl (Nat.le_of_ble_eq_true rfl) dX4_init_42 (fun H locs B => ?_)
    refine lv_aload_n C.1 C.2.1 dX4_init_45 rfl (lv_at hl 1 rfl) ?_
    refine jr_iconst C dX4_init_46 ?_
    refine kr_newa C B (n1 := b + 43) (tk := 1) (atype := .boolean) (cA := G.2.1.2.1) (N' := 4) (by omega) (by omega) (by omega) k_85 rfl rfl rfl (by decide) (by decide) (Nat.le_of_ble_eq_true rfl) (Nat.le_of_ble_eq_true rfl) (Nat.le_of_ble_eq_true rfl) dX4_init_47 (fun H B => ?_)
    refine kr_putF C B hini (ci := 4) (N := 7) (k := b) (fs := [.ref (G.2.2 + (b + 1)), .int (jI 0), .null, .null, .null, .null, .null]) (by omega) (by first | (simp (disch := omega) only [eU_ne, eU_eq]; done) | (simp (disch := omega) only [eU_ne, eU_eq]; rfl) | (simp (disch := omega) only [eU_ne, eU_eq]; exact hE) | exact hE | rfl) rfl inT4 tyX4 tyX4_ok nmX4 2 (by decide) q_61 rfl rfl rfl rfl (Nat.le_of_ble_eq_true rfl) dX4_init_49 (fun H locs B => ?_)
    refine lv_aload_n C.1 C.2.1 dX4_init_52 rfl (lv_at hl 1 rfl) ?_
    refine kr_get C B (ci := 4) (N := 7) (k := b) (fs := [.ref (G.2.2 + (b + 1)), .int (jI 0), .ref (G.2.2 + (b + 42)), .null, .null, .null, .null]) (by omega) (by first | (simp (disch := omega) only [eU_ne, eU_eq]; done) | (simp (disch := omega) only [eU_ne, eU_eq]; rfl) | (simp (disch := omega) only [eU_ne, eU_eq]; exact hE) | exact hE | rfl) rfl inT4 2 (by decide) q_61 rfl dX4_init_53 ?_
    refine jr_iconst C dX4_init_56 ?_
    refine jr_iconst C dX4_init_57 ?_
    refine kr_zast C B (k := (b + 42)) (N' := 4) (f := (fun _ => 0)) (by omega) (by first | (simp (disch := omega) only [eU_ne, eU_eq]; done) | (simp (disch := omega) only [eU_ne, eU_eq]; rfl) | (simp (disch := omega) only [eU_ne, eU_eq]; exact hE) | exact hE | rfl) (jI_in (by decide) (by decide)) dX4_init_58 (fun H locs B => ?_)
    refine lv_aload_n C.1 C.2.1 dX4_init_59 rfl (lv_at hl 1 rfl) ?_
    refine kr_get C B (ci := 4) (N := 7) (k := b) (fs := [.ref (G.2.2 + (b + 1)), .int (jI 0), .ref (G.2.2 + (b + 42)), .null, .null, .null, .null]) (by omega) (by first | (simp (disch := omega) only [eU_ne, eU_eq]; done) | (simp (disch := omega) only [eU_ne, eU_eq]; rfl) | (simp (disch := omega) only [eU_ne, eU_eq]; exact hE) | exact hE | rfl) rfl inT4 2 (by decide) q_61 rfl dX4_init_60 ?_
    refine jr_iconst C dX4_init_63 ?_
    refine jr_iconst C dX4_init_64 ?_
    refine kr_zast C B (k := (b + 42)) (N' := 4) (f := (upd (fun _ => 0) (jI 1).toNatClampNeg (vp_nar .boolean (jI 1)))) (by omega) (by first | (simp (disch := omega) only [eU_ne, eU_eq]; done) | (simp (disch := omega) only [eU_ne, eU_eq]; rfl) | (simp (disch := omega) only [eU_ne, eU_eq]; exact hE) | exact hE | rfl) (jI_in (by decide) (by decide)) dX4_init_65 (fun H locs B => ?_)
    refine lv_aload_n C.1 C.2.1 dX4_init_66 rfl (lv_at hl 1 rfl) ?_
    refine jr_bipush C dX4_init_67 (by decide) ?_
    refine kr_newa C B (n1 := b + 44) (tk := 0) (atype := .int) (cA := G.2.1.1) (N' := 6) (by omega) (by omega) (by omega) k_52 rfl rfl rfl (by decide) (by decide) (Nat.le_of_ble_eq_true rfl) (Nat.le_of_ble_eq_true rfl) (Nat.le_of_ble_eq_true rfl) dX4_init_69 (fun H B => ?_)
    refine kr_putF C B hini (ci := 4) (N := 7) (k := b) (fs := [.ref (G.2.2 + (b + 1)), .int (jI 0), .ref (G.2.2 + (b + 42)), .null, .null, .null, .null]) (by omega) (by first | (simp (disch := omega) only [eU_ne, eU_eq]; done) | (simp (disch := omega) only [eU_ne, eU_eq]; rfl) | (simp (disch := omega) only [eU_ne, eU_eq]; exact hE) | exact hE | rfl) rfl inT4 tyX4 tyX4_ok nmX4 3 (by decide) q_63 rfl rfl rfl rfl (Nat.le_of_ble_eq_true rfl) dX4_init_71 (fun H locs B => ?_)
    refine lv_aload_n C.1 C.2.1 dX4_init_74 rfl (lv_at hl 1 rfl) ?_
    refine jr_bipush C dX4_init_75 (by decide) ?_
    refine kr_newa C B (n1 := b + 45) (tk := 0) (atype := .int) (cA := G.2.1.1) (N' := 6) (by omega) (by omega) (by omega) k_52 rfl rfl rfl (by decide) (by decide) (Nat.le_of_ble_eq_true rfl) (Nat.le_of_ble_eq_true rfl) (Nat.le_of_ble_eq_true rfl) dX4_init_77 (fun H B => ?_)
    refine kr_putF C B hini (ci := 4) (N := 7) (k := b) (fs := [.ref (G.2.2 + (b + 1)), .int (jI 0), .ref (G.2.2 + (b + 42)), .ref (G.2.2 + (b + 43)), .null, .null, .null]) (by omega) (by first | (simp (disch := omega) only [eU_ne, eU_eq]; done) | (simp (disch := omega) only [eU_ne, eU_eq]; rfl) | (simp (disch := omega) only [eU_ne, eU_eq]; exact hE) | exact hE | rfl) rfl inT4 tyX4 tyX4_ok nmX4 4 (by decide) q_65 rfl rfl rfl rfl (Nat.le_of_ble_eq_true rfl) dX4_init_79 (fun H locs B => ?_)
    refine lv_aload_n C.1 C.2.1 dX4_init_82 rfl (lv_at hl 1 rfl) ?_
    refine jr_bipush C dX4_init_83 (by decide) ?_
    refine kr_newa C B (n1 := b + 46) (tk := 0) (atype := .int) (cA := G.2.1.1) (N' := 6) (by omega) (by omega) (by omega) k_52 rfl rfl rfl (by decide) (by decide) (Nat.le_of_ble_eq_true rfl) (Nat.le_of_ble_eq_true rfl) (Nat.le_of_ble_eq_true rfl) dX4_init_85 (fun H B => ?_)
    refine kr_putF C B hini (ci := 4) (N := 7) (k := b) (fs := [.ref (G.2.2 + (b + 1)), .int (jI 0), .ref (G.2.2 + (b + 42)), .ref (G.2.2 + (b + 43)), .ref (G.2.2 + (b + 44)), .null, .null]) (by omega) (by first | (simp (disch := omega) only [eU_ne, eU_eq]; done) | (simp (disch := omega) only [eU_ne, eU_eq]; rfl) | (simp (disch := omega) only [eU_ne, eU_eq]; exact hE) | exact hE | rfl) rfl inT4 tyX4 tyX4_ok nmX4 5 (by decide) q_67 rfl rfl rfl rfl (Nat.le_of_ble_eq_true rfl) dX4_init_87 (fun H locs B => ?_)
    obtain ⟨E2, f1, f2, f3, f4, f5, f6, B⟩ : ∃ E2 : Nat → va_E, (∀ j, j < b + 42 → j ≠ b → E2 j = E1 j) ∧ E2 b = .inr (4, [.ref (G.2.2 + (b + 1)), .int (jI 0), .ref (G.2.2 + (b + 42)), .ref (G.2.2 + (b + 43)), .ref (G.2.2 + (b + 44)), .ref (G.2.2 + (b + 45)), .null]) ∧ E2 (b + 42) = .inl (G.2.1.2.1, 4, .inl (upd (upd (fun _ => 0) (jI 1).toNatClampNeg (vp_nar .boolean (jI 1))) (jI 2).toNatClampNeg (vp_nar .boolean (jI 1)))) ∧ E2 (b + 43) = .inl (G.2.1.1, 6, .inl (fun _ => 0)) ∧ E2 (b + 44) = .inl (G.2.1.1, 6, .inl (fun _ => 0)) ∧ E2 (b + 45) = .inl (G.2.1.1, 6, .inl (fun _ => 0)) ∧ Kq G (b + 46) E2 s.heap H locs := ⟨_, fun j j0 j1 => (by first | (simp (disch := omega) only [eU_ne, eU_eq]; done) | (simp (disch := omega) only [eU_ne, eU_eq]; rfl) | (simp (disch := omega) only [eU_ne, eU_eq]; exact hE) | exact hE | rfl), (by first | (simp (disch := omega) only [eU_ne, eU_eq]; done) | (simp (disch := omega) only [eU_ne, eU_eq]; rfl) | (simp (disch := omega) only [eU_ne, eU_eq]; exact hE) | exact hE | rfl), (by first | (simp (disch := omega) only [eU_ne, eU_eq]; done) | (simp (disch := omega) only [eU_ne, eU_eq]; rfl) | (simp (disch := omega) only [eU_ne, eU_eq]; exact hE) | exact hE | rfl), (by first | (simp (disch := omega) only [eU_ne, eU_eq]; done) | (simp (disch := omega) only [eU_ne, eU_eq]; rfl) | (simp (disch := omega) only [eU_ne, eU_eq]; exact hE) | exact hE | rfl), (by first | (simp (disch := omega) only [eU_ne, eU_eq]; done) | (simp (disch := omega) only [eU_ne, eU_eq]; rfl) | (simp (disch := omega) only [eU_ne, eU_eq]; exact hE) | exact hE | rfl), (by first | (simp (disch := omega) only [eU_ne, eU_eq]; done) | (simp (disch := omega) only [eU_ne, eU_eq]; rfl) | (simp (disch := omega) only [eU_ne, eU_eq]; exact hE) | exact hE | rfl), B⟩
    refine jr_iconst C dX4_init_90 ?_
    refine lv_istore_n (lv' := [(1, .int (jI 0)), (0, .ref (G.2.2 + b))]) C.1 C.2.1 dX4_init_91 rfl hl (by decide) rfl (fun ls hl => ?_)
    have c0 : ∀ j, j < b + 43 → E2 j = E2 j := fun _ _ => rfl
    refine lv_iload_n C.1 C.2.1 dX4_init_92 rfl (lv_at hl 0 rfl) ?_
    refine jr_iconst C dX4_init_93 ?_
    refine jr_icmp_ge (tgt := 111) (P := True) (P2 := False) C (by decide) (by decide) (by rw [if_pos (by decide)]; trivial) dX4_init_94 (by decide) (fun _ _ => ?_) (fun _ h => h.elim)
    refine lv_aload_n C.1 C.2.1 dX4_init_97 rfl (lv_at hl 1 rfl) ?_
    refine lv_iload_n C.1 C.2.1 dX4_init_98 rfl (lv_at hl 0 rfl) ?_
    refine jr_iconst C dX4_init_99 ?_
    refine lv_iload_n C.1 C.2.1 dX4_init_100 rfl (lv_at hl 0 rfl) ?_
    refine jr_iconst C dX4_init_101 ?_
    refine kr_callV C hA hl.1 B (k := b) (ci := 4) (N := 7) (fs := [.ref (G.2.2 + (b + 1)), .int (jI 0), .ref (G.2.2 + (b + 42)), .ref (G.2.2 + (b + 43)), .ref (G.2.2 + (b + 44)), .ref (G.2.2 + (b + 45)), .null]) (by omega) (by omega) (by rw [c0 b (by omega)]; exact f2) rfl (b_setCol (k := b) (k3 := b + 43) (k4 := b + 44) (k5 := b + 45) (fs := [.ref (G.2.2 + (b + 1)), .int (jI 0), .ref (G.2.2 + (b + 42)), .ref (G.2.2 + (b + 43)), .ref (G.2.2 + (b + 44)), .ref (G.2.2 + (b + 45)), .null]) (f3 := (fun _ => 0)) (f4 := (fun _ => 0)) (f5 := (fun _ => 0)) (by omega) (by omega) (by omega) (by omega) ⟨by omega, by omega, by omega, by omega, by omega, by omega⟩ (by rw [c0 b (by omega)]; exact f2) rfl rfl rfl f4 f5 f6 (by decide)) k_53 q_54 q_55 q_56 q_2 ⟨by decide, by decide, by decide +kernel⟩ rfl ⟨rfl, rfl⟩ ⟨(Nat.le_of_ble_eq_true rfl), (Nat.le_of_ble_eq_true rfl)⟩ ⟨(Nat.le_of_ble_eq_true rfl), (Nat.le_of_ble_eq_true rfl)⟩ rfl (Nat.le_of_ble_eq_true rfl) dX4_init_102 (fun u1 H locs hu B => ?_)
    obtain ⟨w1, v13, v14, v15⟩ := hu
    have c1 : ∀ j, j < b + 43 → u1 j = E2 j := fun j hj => (w1 j (by omega) (by omega) (by omega)).trans (c0 j hj)
    refine jr_iinc (k := 0) (lv' := fun y => [(1, .int (jI y)), (0, .ref (G.2.2 + b))]) (P := fun y => y = 1) C (by show jW (0 + 1) = 1; decide) hl rfl (by decide) (fun _ => rfl) dX4_init_105 (fun y hy _ ls hl => ?_)
    subst hy
    refine lv_goto (tgt := 92) C.1 C.2.1 dX4_init_108 (by decide) ?_
    refine lv_iload_n C.1 C.2.1 dX4_init_92 rfl (lv_at hl 0 rfl) ?_
    refine jr_iconst C dX4_init_93 ?_
    refine jr_icmp_ge (tgt := 111) (P := True) (P2 := False) C (by decide) (by decide) (by rw [if_pos (by decide)]; trivial) dX4_init_94 (by decide) (fun _ _ => ?_) (fun _ h => h.elim)
    refine lv_aload_n C.1 C.2.1 dX4_init_97 rfl (lv_at hl 1 rfl) ?_
    refine lv_iload_n C.1 C.2.1 dX4_init_98 rfl (lv_at hl 0 rfl) ?_
    refine jr_iconst C dX4_init_99 ?_
    refine lv_iload_n C.1 C.2.1 dX4_init_100 rfl (lv_at hl 0 rfl) ?_
    refine jr_iconst C dX4_init_101 ?_
    refine kr_callV C hA hl.1 B (k := b) (ci := 4) (N := 7) (fs := [.ref (G.2.2 + (b + 1)), .int (jI 0), .ref (G.2.2 + (b + 42)), .ref (G.2.2 + (b + 43)), .ref (G.2.2 + (b + 44)), .ref (G.2.2 + (b + 45)), .null]) (by omega) (by omega) (by rw [c1 b (by omega)]; exact f2) rfl (b_setCol (k := b) (k3 := b + 43) (k4 := b + 44) (k5 := b + 45) (fs := [.ref (G.2.2 + (b + 1)), .int (jI 0), .ref (G.2.2 + (b + 42)), .ref (G.2.2 + (b + 43)), .ref (G.2.2 + (b + 44)), .ref (G.2.2 + (b + 45)), .null]) (f3 := (upd (fun _ => 0) (Int.toNat 0) (jI 0))) (f4 := (upd (fun _ => 0) (Int.toNat 0) (jI 0))) (f5 := (upd (fun _ => 0) (Int.toNat 0) (jI 0))) (by omega) (by omega) (by omega) (by omega) ⟨by omega, by omega, by omega, by omega, by omega, by omega⟩ (by rw [c1 b (by omega)]; exact f2) rfl rfl rfl v13 v14 v15 (by decide)) k_53 q_54 q_55 q_56 q_2 ⟨by decide, by decide, by decide +kernel⟩ rfl ⟨rfl, rfl⟩ ⟨(Nat.le_of_ble_eq_true rfl), (Nat.le_of_ble_eq_true rfl)⟩ ⟨(Nat.le_of_ble_eq_true rfl), (Nat.le_of_ble_eq_true rfl)⟩ rfl (Nat.le_of_ble_eq_true rfl) dX4_init_102 (fun u2 H locs hu B => ?_)
    obtain ⟨w2, v23, v24, v25⟩ := hu
    have c2 : ∀ j, j < b + 43 → u2 j = E2 j := fun j hj => (w2 j (by omega) (by omega) (by omega)).trans (c1 j hj)
    refine jr_iinc (k := 0) (lv' := fun y => [(1, .int (jI y)), (0, .ref (G.2.2 + b))]) (P := fun y => y = 2) C (by show jW (1 + 1) = 2; decide) hl rfl (by decide) (fun _ => rfl) dX4_init_105 (fun y hy _ ls hl => ?_)
    subst hy
    refine lv_goto (tgt := 92) C.1 C.2.1 dX4_init_108 (by decide) ?_
    refine lv_iload_n C.1 C.2.1 dX4_init_92 rfl (lv_at hl 0 rfl) ?_
    refine jr_iconst C dX4_init_93 ?_
    refine jr_icmp_ge (tgt := 111) (P := True) (P2 := False) C (by decide) (by decide) (by rw [if_pos (by decide)]; trivial) dX4_init_94 (by decide) (fun _ _ => ?_) (fun _ h => h.elim)
    refine lv_aload_n C.1 C.2.1 dX4_init_97 rfl (lv_at hl 1 rfl) ?_
    refine lv_iload_n C.1 C.2.1 dX4_init_98 rfl (lv_at hl 0 rfl) ?_
    refine jr_iconst C dX4_init_99 ?_
    refine lv_iload_n C.1 C.2.1 dX4_init_100 rfl (lv_at hl 0 rfl) ?_
    refine jr_iconst C dX4_init_101 ?_
    refine kr_callV C hA hl.1 B (k := b) (ci := 4) (N := 7) (fs := [.ref (G.2.2 + (b + 1)), .int (jI 0), .ref (G.2.2 + (b + 42)), .ref (G.2.2 + (b + 43)), .ref (G.2.2 + (b + 44)), .ref (G.2.2 + (b + 45)), .null]) (by omega) (by omega) (by rw [c2 b (by omega)]; exact f2) rfl (b_setCol (k := b) (k3 := b + 43) (k4 := b + 44) (k5 := b + 45) (fs := [.ref (G.2.2 + (b + 1)), .int (jI 0), .ref (G.2.2 + (b + 42)), .ref (G.2.2 + (b + 43)), .ref (G.2.2 + (b + 44)), .ref (G.2.2 + (b + 45)), .null]) (f3 := (upd (upd (fun _ => 0) (Int.toNat 0) (jI 0)) (Int.toNat 1) (jI 0))) (f4 := (upd (upd (fun _ => 0) (Int.toNat 0) (jI 0)) (Int.toNat 1) (jI 1))) (f5 := (upd (upd (fun _ => 0) (Int.toNat 0) (jI 0)) (Int.toNat 1) (jI 0))) (by omega) (by omega) (by omega) (by omega) ⟨by omega, by omega, by omega, by omega, by omega, by omega⟩ (by rw [c2 b (by omega)]; exact f2) rfl rfl rfl v23 v24 v25 (by decide)) k_53 q_54 q_55 q_56 q_2 ⟨by decide, by decide, by decide +kernel⟩ rfl ⟨rfl, rfl⟩ ⟨(Nat.le_of_ble_eq_true rfl), (Nat.le_of_ble_eq_true rfl)⟩ ⟨(Nat.le_of_ble_eq_true rfl), (Nat.le_of_ble_eq_true rfl)⟩ rfl (Nat.le_of_ble_eq_true rfl) dX4_init_102 (fun u3 H locs hu B => ?_)
    obtain ⟨w3, v33, v34, v35⟩ := hu
    have c3 : ∀ j, j < b + 43 → u3 j = E2 j := fun j hj => (w3 j (by omega) (by omega) (by omega)).trans (c2 j hj)
    refine jr_iinc (k := 0) (lv' := fun y => [(1, .int (jI y)), (0, .ref (G.2.2 + b))]) (P := fun y => y = 3) C (by show jW (2 + 1) = 3; decide) hl rfl (by decide) (fun _ => rfl) dX4_init_105 (fun y hy _ ls hl => ?_)
    subst hy
    refine lv_goto (tgt := 92) C.1 C.2.1 dX4_init_108 (by decide) ?_
    refine lv_iload_n C.1 C.2.1 dX4_init_92 rfl (lv_at hl 0 rfl) ?_
    refine jr_iconst C dX4_init_93 ?_
    refine jr_icmp_ge (tgt := 111) (P := True) (P2 := False) C (by decide) (by decide) (by rw [if_pos (by decide)]; trivial) dX4_init_94 (by decide) (fun _ _ => ?_) (fun _ h => h.elim)
    refine lv_aload_n C.1 C.2.1 dX4_init_97 rfl (lv_at hl 1 rfl) ?_
    refine lv_iload_n C.1 C.2.1 dX4_init_98 rfl (lv_at hl 0 rfl) ?_
    refine jr_iconst C dX4_init_99 ?_
    refine lv_iload_n C.1 C.2.1 dX4_init_100 rfl (lv_at hl 0 rfl) ?_
    refine jr_iconst C dX4_init_101 ?_
    refine kr_callV C hA hl.1 B (k := b) (ci := 4) (N := 7) (fs := [.ref (G.2.2 + (b + 1)), .int (jI 0), .ref (G.2.2 + (b + 42)), .ref (G.2.2 + (b + 43)), .ref (G.2.2 + (b + 44)), .ref (G.2.2 + (b + 45)), .null]) (by omega) (by omega) (by rw [c3 b (by omega)]; exact f2) rfl (b_setCol (k := b) (k3 := b + 43) (k4 := b + 44) (k5 := b + 45) (fs := [.ref (G.2.2 + (b + 1)), .int (jI 0), .ref (G.2.2 + (b + 42)), .ref (G.2.2 + (b + 43)), .ref (G.2.2 + (b + 44)), .ref (G.2.2 + (b + 45)), .null]) (f3 := (upd (upd (upd (fun _ => 0) (Int.toNat 0) (jI 0)) (Int.toNat 1) (jI 0)) (Int.toNat 2) (jI 0))) (f4 := (upd (upd (upd (fun _ => 0) (Int.toNat 0) (jI 0)) (Int.toNat 1) (jI 1)) (Int.toNat 2) (jI 2))) (f5 := (upd (upd (upd (fun _ => 0) (Int.toNat 0) (jI 0)) (Int.toNat 1) (jI 0)) (Int.toNat 2) (jI 0))) (by omega) (by omega) (by omega) (by omega) ⟨by omega, by omega, by omega, by omega, by omega, by omega⟩ (by rw [c3 b (by omega)]; exact f2) rfl rfl rfl v33 v34 v35 (by decide)) k_53 q_54 q_55 q_56 q_2 ⟨by decide, by decide, by decide +kernel⟩ rfl ⟨rfl, rfl⟩ ⟨(Nat.le_of_ble_eq_true rfl), (Nat.le_of_ble_eq_true rfl)⟩ ⟨(Nat.le_of_ble_eq_true rfl), (Nat.le_of_ble_eq_true rfl)⟩ rfl (Nat.le_of_ble_eq_true rfl) dX4_init_102 (fun u4 H locs hu B => ?_)
    obtain ⟨w4, v43, v44, v45⟩ := hu
    have c4 : ∀ j, j < b + 43 → u4 j = E2 j := fun j hj => (w4 j (by omega) (by omega) (by omega)).trans (c3 j hj)
    refine jr_iinc (k := 0) (lv' := fun y => [(1, .int (jI y)), (0, .ref (G.2.2 + b))]) (P := fun y => y = 4) C (by show jW (3 + 1) = 4; decide) hl rfl (by decide) (fun _ => rfl) dX4_init_105 (fun y hy _ ls hl => ?_)
    subst hy
    refine lv_goto (tgt := 92) C.1 C.2.1 dX4_init_108 (by decide) ?_
    refine lv_iload_n C.1 C.2.1 dX4_init_92 rfl (lv_at hl 0 rfl) ?_
    refine jr_iconst C dX4_init_93 ?_
    refine jr_icmp_ge (tgt := 111) (P := False) (P2 := True) C (by decide) (by decide) (by rw [if_neg (by decide)]; trivial) dX4_init_94 (by decide) (fun _ h => h.elim) (fun _ _ => ?_)
    refine lv_aload_n C.1 C.2.1 dX4_init_111 rfl (lv_at hl 1 rfl) ?_
    refine jr_iconst C dX4_init_112 ?_
    refine jr_iconst C dX4_init_113 ?_
    refine jr_iconst C dX4_init_114 ?_
    refine jr_iconst C dX4_init_115 ?_
    refine kr_callV C hA hl.1 B (k := b) (ci := 4) (N := 7) (fs := [.ref (G.2.2 + (b + 1)), .int (jI 0), .ref (G.2.2 + (b + 42)), .ref (G.2.2 + (b + 43)), .ref (G.2.2 + (b + 44)), .ref (G.2.2 + (b + 45)), .null]) (by omega) (by omega) (by rw [c4 b (by omega)]; exact f2) rfl (b_setCol (k := b) (k3 := b + 43) (k4 := b + 44) (k5 := b + 45) (fs := [.ref (G.2.2 + (b + 1)), .int (jI 0), .ref (G.2.2 + (b + 42)), .ref (G.2.2 + (b + 43)), .ref (G.2.2 + (b + 44)), .ref (G.2.2 + (b + 45)), .null]) (f3 := (upd (upd (upd (upd (fun _ => 0) (Int.toNat 0) (jI 0)) (Int.toNat 1) (jI 0)) (Int.toNat 2) (jI 0)) (Int.toNat 3) (jI 0))) (f4 := (upd (upd (upd (upd (fun _ => 0) (Int.toNat 0) (jI 0)) (Int.toNat 1) (jI 1)) (Int.toNat 2) (jI 2)) (Int.toNat 3) (jI 3))) (f5 := (upd (upd (upd (upd (fun _ => 0) (Int.toNat 0) (jI 0)) (Int.toNat 1) (jI 0)) (Int.toNat 2) (jI 0)) (Int.toNat 3) (jI 0))) (by omega) (by omega) (by omega) (by omega) ⟨by omega, by omega, by omega, by omega, by omega, by omega⟩ (by rw [c4 b (by omega)]; exact f2) rfl rfl rfl v43 v44 v45 (by decide)) k_53 q_54 q_55 q_56 q_2 ⟨by decide, by decide, by decide +kernel⟩ rfl ⟨rfl, rfl⟩ ⟨(Nat.le_of_ble_eq_true rfl), (Nat.le_of_ble_eq_true rfl)⟩ ⟨(Nat.le_of_ble_eq_true rfl), (Nat.le_of_ble_eq_true rfl)⟩ rfl (Nat.le_of_ble_eq_true rfl) dX4_init_116 (fun u5 H locs hu B => ?_)
    obtain ⟨w5, v53, v54, v55⟩ := hu
    have c5 : ∀ j, j < b + 43 → u5 j = E2 j := fun j hj => (w5 j (by omega) (by omega) (by omega)).trans (c4 j hj)
    refine lv_aload_n C.1 C.2.1 dX4_init_119 rfl (lv_at hl 1 rfl) ?_
    refine jr_iconst C dX4_init_120 ?_
    refine jr_iconst C dX4_init_121 ?_
    refine jr_iconst C dX4_init_122 ?_
    refine jr_iconst C dX4_init_123 ?_
    refine kr_callV C hA hl.1 B (k := b) (ci := 4) (N := 7) (fs := [.ref (G.2.2 + (b + 1)), .int (jI 0), .ref (G.2.2 + (b + 42)), .ref (G.2.2 + (b + 43)), .ref (G.2.2 + (b + 44)), .ref (G.2.2 + (b + 45)), .null]) (by omega) (by omega) (by rw [c5 b (by omega)]; exact f2) rfl (b_setCol (k := b) (k3 := b + 43) (k4 := b + 44) (k5 := b + 45) (fs := [.ref (G.2.2 + (b + 1)), .int (jI 0), .ref (G.2.2 + (b + 42)), .ref (G.2.2 + (b + 43)), .ref (G.2.2 + (b + 44)), .ref (G.2.2 + (b + 45)), .null]) (f3 := (upd (upd (upd (upd (upd (fun _ => 0) (Int.toNat 0) (jI 0)) (Int.toNat 1) (jI 0)) (Int.toNat 2) (jI 0)) (Int.toNat 3) (jI 0)) (Int.toNat 4) (jI 1))) (f4 := (upd (upd (upd (upd (upd (fun _ => 0) (Int.toNat 0) (jI 0)) (Int.toNat 1) (jI 1)) (Int.toNat 2) (jI 2)) (Int.toNat 3) (jI 3)) (Int.toNat 4) (jI 0))) (f5 := (upd (upd (upd (upd (upd (fun _ => 0) (Int.toNat 0) (jI 0)) (Int.toNat 1) (jI 0)) (Int.toNat 2) (jI 0)) (Int.toNat 3) (jI 0)) (Int.toNat 4) (jI 0))) (by omega) (by omega) (by omega) (by omega) ⟨by omega, by omega, by omega, by omega, by omega, by omega⟩ (by rw [c5 b (by omega)]; exact f2) rfl rfl rfl v53 v54 v55 (by decide)) k_53 q_54 q_55 q_56 q_2 ⟨by decide, by decide, by decide +kernel⟩ rfl ⟨rfl, rfl⟩ ⟨(Nat.le_of_ble_eq_true rfl), (Nat.le_of_ble_eq_true rfl)⟩ ⟨(Nat.le_of_ble_eq_true rfl), (Nat.le_of_ble_eq_true rfl)⟩ rfl (Nat.le_of_ble_eq_true rfl) dX4_init_124 (fun u6 H locs hu B => ?_)
    obtain ⟨w6, v63, v64, v65⟩ := hu
    have c6 : ∀ j, j < b + 43 → u6 j = E2 j := fun j hj => (w6 j (by omega) (by omega) (by omega)).trans (c5 j hj)
    have uk : u6 b = .inr (4, [.ref (G.2.2 + (b + 1)), .int (jI 0), .ref (G.2.2 + (b + 42)), .ref (G.2.2 + (b + 43)), .ref (G.2.2 + (b + 44)), .ref (G.2.2 + (b + 45)), .null]) := by rw [c6 b (by omega)]; exact f2
    refine lv_aload_n C.1 C.2.1 dX4_init_127 rfl (lv_at hl 1 rfl) ?_
    refine jr_sipush C dX4_init_128 (by decide) ?_
    refine kr_newa C B (n1 := b + 47) (tk := 1) (atype := .boolean) (cA := G.2.1.2.1) (N' := 800) (by omega) (by omega) (by omega) k_85 rfl rfl rfl (by decide) (by decide) (Nat.le_of_ble_eq_true rfl) (Nat.le_of_ble_eq_true rfl) (Nat.le_of_ble_eq_true rfl) dX4_init_131 (fun H B => ?_)
    refine kr_putF C B hini (ci := 4) (N := 7) (k := b) (fs := [.ref (G.2.2 + (b + 1)), .int (jI 0), .ref (G.2.2 + (b + 42)), .ref (G.2.2 + (b + 43)), .ref (G.2.2 + (b + 44)), .ref (G.2.2 + (b + 45)), .null]) (by omega) (by first | exact uk | (simp (disch := omega) only [eU_ne, eU_eq]; exact uk) | (simp (disch := omega) only [eU_ne, eU_eq]; done)) rfl inT4 tyX4 tyX4_ok nmX4 6 (by decide) q_69 rfl rfl rfl rfl (Nat.le_of_ble_eq_true rfl) dX4_init_133 (fun H locs B => ?_)
    have kd : ∀ d : Int, 0 ≤ d → d < 47 → jK ((b : Int) + d) = jKs d := fun d h0 h1 => (hb d h0 h1).1
    have md : ∀ d : Int, 0 ≤ d → d < 47 → ∀ i, mM ((b : Int) + d) i = mS b d i := fun d h0 h1 => (hb d h0 h1).2
    have kb : jK (b : Int) = 5 := by have := kd 0 (by decide) (by decide); rw [Int.add_zero] at this; rw [this]; decide
    have mb : ∀ i, mM (b : Int) i = 0 := fun i => by have := md 0 (by decide) (by decide) i; rw [Int.add_zero] at this; rw [this]; simp [mS]
    have tb0 : jE G mM (b : Int) = .inr (4, [.ref (G.2.2 + (b + 1)), .int (jI 0), .ref (G.2.2 + (b + 42)), .ref (G.2.2 + (b + 43)), .ref (G.2.2 + (b + 44)), .ref (G.2.2 + (b + 45)), .ref (G.2.2 + (b + 46))]) := by
      rw [jE5 kb, mb, jD_n (n := b + 1) (by omega), jD_n (n := b + 42) (by omega), jD_n (n := b + 43) (by omega), jD_n (n := b + 44) (by omega), jD_n (n := b + 45) (by omega), jD_n (n := b + 46) (by omega)]
    have t42 : jE G mM ((b : Int) + 42) = .inl (G.2.1.2.1, 4, .inl (upd (upd (fun _ => 0) (jI 1).toNatClampNeg (vp_nar .boolean (jI 1))) (jI 2).toNatClampNeg (vp_nar .boolean (jI 1)))) := by
      rw [jEz (n := 4) (by rw [kd 42 (by decide) (by decide)]; decide) (by rw [kd 42 (by decide) (by decide)]; decide)]
      simp only [md 42 (by decide) (by decide)]
      rw [st_42]
    have t43 : jE G mM ((b : Int) + 43) = .inl (G.2.1.1, 6, .inl (upd (upd (upd (upd (upd (upd (fun _ => 0) (Int.toNat 0) (jI 0)) (Int.toNat 1) (jI 0)) (Int.toNat 2) (jI 0)) (Int.toNat 3) (jI 0)) (Int.toNat 4) (jI 1)) (Int.toNat 5) (jI 4))) := by
      rw [jEi (n := 6) (by rw [kd 43 (by decide) (by decide)]; decide) (by rw [kd 43 (by decide) (by decide)]; decide)]
      simp only [md 43 (by decide) (by decide)]
      rw [st_43]
    have t44 : jE G mM ((b : Int) + 44) = .inl (G.2.1.1, 6, .inl (upd (upd (upd (upd (upd (upd (fun _ => 0) (Int.toNat 0) (jI 0)) (Int.toNat 1) (jI 1)) (Int.toNat 2) (jI 2)) (Int.toNat 3) (jI 3)) (Int.toNat 4) (jI 0)) (Int.toNat 5) (jI 1))) := by
      rw [jEi (n := 6) (by rw [kd 44 (by decide) (by decide)]; decide) (by rw [kd 44 (by decide) (by decide)]; decide)]
      simp only [md 44 (by decide) (by decide)]
      rw [st_44]
    have t45 : jE G mM ((b : Int) + 45) = .inl (G.2.1.1, 6, .inl (upd (upd (upd (upd (upd (upd (fun _ => 0) (Int.toNat 0) (jI 0)) (Int.toNat 1) (jI 0)) (Int.toNat 2) (jI 0)) (Int.toNat 3) (jI 0)) (Int.toNat 4) (jI 0)) (Int.toNat 5) (jI 2))) := by
      rw [jEi (n := 6) (by rw [kd 45 (by decide) (by decide)]; decide) (by rw [kd 45 (by decide) (by decide)]; decide)]
      simp only [md 45 (by decide) (by decide)]
      rw [st_45]
    have t46 : jE G mM ((b : Int) + 46) = .inl (G.2.1.2.1, 800, .inl (fun _ => 0)) := by
      rw [jEz (n := 800) (by rw [kd 46 (by decide) (by decide)]; decide) (by rw [kd 46 (by decide) (by decide)]; decide)]
      simp only [md 46 (by decide) (by decide)]
      rw [st_46]
    refine kr_vret C B hr hlocks ⟨fun j hj => ?_, fun j j0 j1 j2 => ?_, ?_⟩ dX4_init_136
    · simp (disch := omega) only [eU_ne, eU_eq]
      rw [c6 j (by omega), f1 j (by omega) (by omega)]
      exact p1 j hj
    · rcases (by omega : j = b ∨ (b + 2 ≤ j ∧ j < b + 42) ∨ j = b + 42 ∨ j = b + 43 ∨ j = b + 44 ∨ j = b + 45 ∨ j = b + 46) with h | h | h | h | h | h | h
      · subst h; rw [eU_eq]; exact tb0.symm
      · simp (disch := omega) only [eU_ne, eU_eq]
        rw [c6 j (by omega), f1 j (by omega) (by omega)]
        exact p4 j h.1 h.2
      · subst h; simp (disch := omega) only [eU_ne, eU_eq]; rw [c6 _ (by omega), f3]; exact t42.symm
      · subst h; simp (disch := omega) only [eU_ne, eU_eq]; rw [v63]; exact t43.symm
      · subst h; simp (disch := omega) only [eU_ne, eU_eq]; rw [v64]; exact t44.symm
      · subst h; simp (disch := omega) only [eU_ne, eU_eq]; rw [v65]; exact t45.symm
      · subst h; simp (disch := omega) only [eU_ne, eU_eq]; exact t46.symm
    · simp (disch := omega) only [eU_ne, eU_eq]
      rw [c6 _ (by omega), f1 _ (by omega) (by omega)]
      exact p3
  refine lv_aload_n C.1 C.2.1 dX4_init_0 rfl (lv_at hl 0 rfl) ?_
  refine kr_obj C hl.1 k_23 k_16 k_17 ⟨(Nat.le_of_ble_eq_true rfl), (Nat.le_of_ble_eq_true rfl)⟩ (Nat.le_of_ble_eq_true rfl) dX4_init_1 ?_
  refine lv_aload_n C.1 C.2.1 dX4_init_4 rfl (lv_at hl 0 rfl) ?_
  refine jr_bipush C dX4_init_5 (by decide) ?_
  refine kr_newq C B (n1 := b + 2) (tk := 3) (cA := G.2.1.2.2.2.1) (N' := 10) (by omega) (by omega) (by omega) k_24 hA.1 rfl (by decide) (by decide) (Nat.le_of_ble_eq_true rfl) (Nat.le_of_ble_eq_true rfl) (Nat.le_of_ble_eq_true rfl) dX4_init_7 (fun H B => ?_)
  refine kr_putF C B hini (ci := 4) (N := 7) (k := b) (fs := [.null, .int 0, .null, .null, .null, .null, .null]) (by omega) (by first | (simp (disch := omega) only [eU_ne, eU_eq]; done) | (simp (disch := omega) only [eU_ne, eU_eq]; rfl) | (simp (disch := omega) only [eU_ne, eU_eq]; exact hE) | exact hE | rfl) rfl inT4 tyX4 tyX4_ok nmX4 0 (by decide) q_57 rfl rfl rfl rfl (Nat.le_of_ble_eq_true rfl) dX4_init_10 (fun H locs B => ?_)
  refine jr_iconst C dX4_init_13 ?_
  refine lv_istore_n (lv' := [(1, .int (jI 0)), (0, .ref (G.2.2 + b))]) C.1 C.2.1 dX4_init_14 rfl hl (by decide) rfl (fun ls hl => ?_)
  have loop : ∀ (d i : Nat) (E1 : Nat → va_E) (H : Heap) (locs : List Loc) (ls : Array Slot), i + d = 10 → (∀ j, j < b → E1 j = E j) → E1 b = .inr (4, [.ref (G.2.2 + (b + 1)), .int 0, .null, .null, .null, .null, .null]) → E1 (b + 1) = .inl (G.2.1.2.2.2.1, 10, .inr (.inr (.inr (.inr (fun j => if j < i then some (G.2.2 + (b + 2 + 4 * j)) else none))))) → (∀ j : Nat, b + 2 ≤ j → j < b + 2 + 4 * i → E1 j = jE G mM (j : Int)) → Kq G (b + 2 + 4 * i) E1 s.heap H locs → lv_has ls 2 [(1, .int (jI i)), (0, .ref (G.2.2 + b))] → W p l e { frames := 2, cells := 46, slots := 1922, locals := 60 } s m args below meth c H locs (1 + 4 * i) (10 + 109 * i) (MQ below (kQ G (b + 47) (fun u : Nat → va_E => (∀ j, j < b → u j = E j) ∧ (∀ j : Nat, b ≤ j → j < b + 47 → j ≠ b + 1 → u j = jE G mM (j : Int)) ∧ u (b + 1) = .inl (G.2.1.2.2.2.1, 10, .inr (.inr (.inr (.inr (fun j => if j < 10 then some (G.2.2 + (b + 2 + 4 * j)) else none))))))) args s 46 1922 (gB G)) (F0 m 15 ls []) := by
    intro d
    induction d with
    | zero =>
      intro i E1 H locs ls hi p1 p2 p3 p4 B hl
      have : i = 10 := by omega
      subst this
      refine lv_iload_n C.1 C.2.1 dX4_init_15 rfl (lv_at hl 0 rfl) ?_
      refine jr_bipush C dX4_init_16 (by decide) ?_
      refine jr_icmp_ge (tgt := 40) (P := False) (P2 := True) C (by decide) (by decide) (by rw [if_neg (by decide)]; trivial) dX4_init_18 (by decide) (fun _ h => h.elim) (fun _ _ => ?_)
      exact rest E1 H locs ls p1 p2 p3 p4 B hl
    | succ d ih =>
      intro i E1 H locs ls hi p1 p2 p3 p4 B hl
      refine lv_iload_n C.1 C.2.1 dX4_init_15 rfl (lv_at hl 0 rfl) ?_
      refine jr_bipush C dX4_init_16 (by decide) ?_
      refine jr_icmp_ge (tgt := 40) (P := True) (P2 := False) C (by omega) (by decide) (by rw [if_pos (by omega)]; trivial) dX4_init_18 (by decide) (fun _ _ => ?_) (fun _ h => h.elim)
      have hE := p2
      refine lv_aload_n C.1 C.2.1 dX4_init_21 rfl (lv_at hl 1 rfl) ?_
      refine kr_get C B (ci := 4) (N := 7) (k := b) (fs := [.ref (G.2.2 + (b + 1)), .int 0, .null, .null, .null, .null, .null]) (by omega) (by first | (simp (disch := omega) only [eU_ne, eU_eq]; done) | (simp (disch := omega) only [eU_ne, eU_eq]; rfl) | (simp (disch := omega) only [eU_ne, eU_eq]; exact hE) | exact hE | rfl) rfl inT4 0 (by decide) q_57 rfl dX4_init_22 ?_
      refine lv_iload_n C.1 C.2.1 dX4_init_25 rfl (lv_at hl 0 rfl) ?_
      refine kr_new C B (n1 := b + 2 + 4 * i + 1) (ci := 1) (fs := [.int 0, .int 0, .null, .null, .null]) (by omega) (by omega) (by omega) k_24 k_26 q_3 inT1 tyX1 tyX1_ok rfl (fun j hj => by rcases (show j = 0 ∨ j = 1 ∨ j = 2 ∨ j = 3 ∨ j = 4 by omega) with rfl | rfl | rfl | rfl | rfl <;> rfl) (by show 1 + 4 * i + 1 ≤ 46; omega) (by show 10 + 109 * i + 5 ≤ 1922; omega) dX4_init_26 (fun H B => ?_)
      refine lv_dup C.1 C.2.1 dX4_init_29 rfl ?_
      refine kr_call C hA hl.1 B (by omega) (by omega) (b_X1 (k := b + 2 + 4 * i) (by omega) eU_eq) k_27 rfl k_28 k_29 q_3 ⟨by decide, by decide, by decide +kernel⟩ rfl ⟨rfl, rfl⟩ ⟨(Nat.le_of_ble_eq_true rfl), (Nat.le_of_ble_eq_true rfl)⟩ ⟨by show 1 + 4 * i + 1 + 3 ≤ 46; omega, by show 10 + 109 * i + 5 + 104 ≤ 1922; omega⟩ rfl (Nat.le_of_ble_eq_true rfl) dX4_init_30 (fun u H locs hu B => ?_)
      obtain ⟨q1, q2, q3, q4, q5⟩ := hu
      have q0 : ∀ j, j < b + 2 + 4 * i → u j = E1 j := fun j hj => by rw [q1 j (by omega) (by omega), eU_ne (by omega)]
      refine kr_astq C B (k := b + 1) (k2 := b + 2 + 4 * i) (N' := 10) (ci := 1) (tk := 3) (by omega) ((q0 _ (by omega)).trans p3) rfl (by omega) q2 rfl (jI_in (by omega) (by omega)) dX4_init_33 (fun H locs B => ?_)
      refine jr_iinc (k := 0) (lv' := fun y => [(1, .int (jI y)), (0, .ref (G.2.2 + b))]) (P := fun y => y = ((i + 1 : Nat) : Int)) C (by show jW ((i : Int) + 1) = _; rw [jW_id (by omega)]; omega) hl rfl (by decide) (fun _ => rfl) dX4_init_34 (fun y hy _ ls hl => ?_)
      subst hy
      refine lv_goto (tgt := 15) C.1 C.2.1 dX4_init_37 (by decide) ?_
      have hcl : (jI (i : Int)).toNatClampNeg = i := by rw [jI_cl (by omega)]; omega
      rw [hcl] at B
      have ed : ∀ t : Nat, t < 4 → ((b + 2 + 4 * i + t : Nat) : Int) = (b : Int) + (2 + 4 * (i : Int) + t) := fun t _ => by omega
      have rb := rec_born (G := G) (n := b + 2 + 4 * i) (by have := (hb (2 + 4 * (i : Int)) (by omega) (by omega)).1; rw [show ((b + 2 + 4 * i : Nat) : Int) = (b : Int) + (2 + 4 * (i : Int)) by omega, this]; unfold jKs; omega) (by have := (hb (3 + 4 * (i : Int)) (by omega) (by omega)).1; rw [show ((b + 2 + 4 * i : Nat) : Int) + 1 = (b : Int) + (3 + 4 * (i : Int)) by omega, this]; unfold jKs; omega) (by have := (hb (4 + 4 * (i : Int)) (by omega) (by omega)).1; rw [show ((b + 2 + 4 * i : Nat) : Int) + 2 = (b : Int) + (4 + 4 * (i : Int)) by omega, this]; unfold jKs; omega) (by have := (hb (5 + 4 * (i : Int)) (by omega) (by omega)).1; rw [show ((b + 2 + 4 * i : Nat) : Int) + 3 = (b : Int) + (5 + 4 * (i : Int)) by omega, this]; unfold jKs; omega) (fun t => by have := (hb (2 + 4 * (i : Int)) (by omega) (by omega)).2 t; rw [show ((b + 2 + 4 * i : Nat) : Int) = (b : Int) + (2 + 4 * (i : Int)) by omega, this]; unfold mS; rw [if_neg (by omega), if_pos (by omega)]) (fun t => by have := (hb (3 + 4 * (i : Int)) (by omega) (by omega)).2 t; rw [show ((b + 2 + 4 * i : Nat) : Int) + 1 = (b : Int) + (3 + 4 * (i : Int)) by omega, this]; exact mS_0 (by omega)) (fun t => by have := (hb (4 + 4 * (i : Int)) (by omega) (by omega)).2 t; rw [show ((b + 2 + 4 * i : Nat) : Int) + 2 = (b : Int) + (4 + 4 * (i : Int)) by omega, this]; exact mS_0 (by omega)) (fun t => by have := (hb (5 + 4 * (i : Int)) (by omega) (by omega)).2 t; rw [show ((b + 2 + 4 * i : Nat) : Int) + 3 = (b : Int) + (5 + 4 * (i : Int)) by omega, this]; exact mS_0 (by omega))
      have fin := ih (i + 1) _ H locs ls (by omega) (fun j hj => ?_) ?_ ?_ (fun j j0 j1 => ?_) (show Kq G (b + 2 + 4 * (i + 1)) _ s.heap H locs from B) hl
      · exact fin
      · rw [eU_ne (by omega), q0 j (by omega)]
        exact p1 j hj
      · rw [eU_ne (by omega), q0 b (by omega)]
        exact p2
      · rw [eU_eq]
        congr 7
        funext j
        unfold va_up
        by_cases z : j = i
        · subst z
          rw [if_pos rfl, if_pos (by omega)]
        · rw [if_neg z]
          show (if j < i then some (G.2.2 + (b + 2 + 4 * j)) else none) = _
          by_cases y : j < i
          · rw [if_pos y, if_pos (by omega)]
          · rw [if_neg y, if_neg (by omega)]
      · rw [eU_ne (by omega)]
        rcases (by omega : j < b + 2 + 4 * i ∨ j = b + 2 + 4 * i ∨ j = b + 2 + 4 * i + 1 ∨ j = b + 2 + 4 * i + 2 ∨ j = b + 2 + 4 * i + 3) with h | h | h | h | h
        · rw [q0 j h]
          exact p4 j j0 h
        · subst h; rw [q2]; exact rb.1.symm
        · subst h; rw [q3]; exact rb.2.1.symm
        · subst h; exact q4.trans rb.2.2.1.symm
        · subst h; exact q5.trans rb.2.2.2.symm
  refine loop 10 0 _ H locs ls (by omega) (fun j hj => (by first | (simp (disch := omega) only [eU_ne, eU_eq]; done) | (simp (disch := omega) only [eU_ne, eU_eq]; rfl) | (simp (disch := omega) only [eU_ne, eU_eq]; exact hE) | exact hE | rfl)) (by first | (simp (disch := omega) only [eU_ne, eU_eq]; done) | (simp (disch := omega) only [eU_ne, eU_eq]; rfl) | (simp (disch := omega) only [eU_ne, eU_eq]; exact hE) | exact hE | rfl) ?_ (fun j j0 j1 => by omega) B hl
  simp (disch := omega) only [eU_ne, eU_eq]
  congr 6
