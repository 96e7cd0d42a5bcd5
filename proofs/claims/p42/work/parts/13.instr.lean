/-! rules of single instructions over jI; branches over the walked Prop h -/
section JI
variable {p : Program} {l : Launch} {e : Env} {R : Room} {s : State} {m : MethodId} {args : Array Value} {below : List Frame} {meth : Method} {c : Code} {H : Heap} {locs : List Loc} {cells slots : Nat} {Q : State → Prop} {cc : ByteArray} {nL : Nat} {own : String} {G : jG} {M : jM} {H0 : Heap} {pc : Nat} {ls : Array Slot} {rest : List Value}
theorem jr_nm {x : Int} {P : Int → Prop} (h : jL x P) (hx : jR x) (kk : ∀ y : Int, P y → jR y → W p l e R s m args below meth c H locs cells slots Q (F0 m pc ls (.int (jI y) :: rest))) : W p l e R s m args below meth c H locs cells slots Q (F0 m pc ls (.int (jI x) :: rest)) := kk x h hx
theorem jr_nmz {x : Int} {P : Int → Prop} (h : jL x P) (hx : x = 0 ∨ x = 1) (kk : ∀ y : Int, P y → (y = 0 ∨ y = 1) → W p l e R s m args below meth c H locs cells slots Q (F0 m pc ls (.int (jI y) :: rest))) : W p l e R s m args below meth c H locs cells slots Q (F0 m pc ls (.int (jI x) :: rest)) := kk x h hx
theorem jr_nmr {x : Int} {P : Int → Prop} {k : Int} (h : jL x P) (hx : jK x = k) (kk : ∀ y : Int, P y → jK y = k → W p l e R s m args below meth c H locs cells slots Q (F0 m pc ls (.ref (jD G y) :: rest))) : W p l e R s m args below meth c H locs cells slots Q (F0 m pc ls (.ref (jD G x) :: rest)) := kk x h hx
theorem jr_iconst {n : Int} (C : Cx G p s args m c cc nL own) (hdg : decode cc pc = .ok (.iconst n, 1)) (kk : W p l e R s m args below meth c H locs cells slots Q (F0 m (pc + 1) ls (.int (jI n) :: rest))) : W p l e R s m args below meth c H locs cells slots Q (F0 m pc ls rest) := lv_iconst C.1 C.2.1 hdg rfl kk
theorem jr_bipush {n : Int} (C : Cx G p s args m c cc nL own) (hdg : decode cc pc = .ok (.bipush n, 2)) (hv : (Int8.ofInt n).toInt32 = jI n) (kk : W p l e R s m args below meth c H locs cells slots Q (F0 m (pc + 2) ls (.int (jI n) :: rest))) : W p l e R s m args below meth c H locs cells slots Q (F0 m pc ls rest) := lv_bipush C.1 C.2.1 hdg hv kk
theorem jr_sipush {n : Int} (C : Cx G p s args m c cc nL own) (hdg : decode cc pc = .ok (.sipush n, 3)) (hv : (Int16.ofInt n).toInt32 = jI n) (kk : W p l e R s m args below meth c H locs cells slots Q (F0 m (pc + 3) ls (.int (jI n) :: rest))) : W p l e R s m args below meth c H locs cells slots Q (F0 m pc ls rest) := lv_sipush C.1 C.2.1 hdg hv kk
theorem jr_ldc {n : Int} {idx : Nat} {v : Int32} (C : Cx G p s args m c cc nL own) (q : Cond.constant own idx v ∈ tb) (hv : v = jI n) (hdg : decode cc pc = .ok (.ldc idx, 2)) (kk : W p l e R s m args below meth c H locs cells slots Q (F0 m (pc + 2) ls (.int (jI n) :: rest))) : W p l e R s m args below meth c H locs cells slots Q (F0 m pc ls rest) := lv_ldc C.1 C.2.1 C.2.2.2.1 (C.2.2.2.2.1 _ q) hdg (hv ▸ kk)
theorem jr_iadd {a b : Int} (C : Cx G p s args m c cc nL own) (hdg : decode cc pc = .ok (.iadd, 1)) (kk : W p l e R s m args below meth c H locs cells slots Q (F0 m (pc + 1) ls (.int (jI (jW (a + b))) :: rest))) : W p l e R s m args below meth c H locs cells slots Q (F0 m pc ls (.int (jI b) :: .int (jI a) :: rest)) := lv_iadd C.1 C.2.1 hdg (by rw [jI_add]; exact kk)
theorem jr_isub {a b : Int} (C : Cx G p s args m c cc nL own) (hdg : decode cc pc = .ok (.isub, 1)) (kk : W p l e R s m args below meth c H locs cells slots Q (F0 m (pc + 1) ls (.int (jI (jW (a - b))) :: rest))) : W p l e R s m args below meth c H locs cells slots Q (F0 m pc ls (.int (jI b) :: .int (jI a) :: rest)) := lv_isub C.1 C.2.1 hdg (by rw [jI_sub]; exact kk)
theorem jr_imul {a b : Int} (C : Cx G p s args m c cc nL own) (hdg : decode cc pc = .ok (.imul, 1)) (kk : W p l e R s m args below meth c H locs cells slots Q (F0 m (pc + 1) ls (.int (jI (jW (a * b))) :: rest))) : W p l e R s m args below meth c H locs cells slots Q (F0 m pc ls (.int (jI b) :: .int (jI a) :: rest)) := lv_imul C.1 C.2.1 hdg (by rw [jI_mul]; exact kk)
theorem jr_ineg {a : Int} (C : Cx G p s args m c cc nL own) (hdg : decode cc pc = .ok (.ineg, 1)) (kk : W p l e R s m args below meth c H locs cells slots Q (F0 m (pc + 1) ls (.int (jI (jW (-a))) :: rest))) : W p l e R s m args below meth c H locs cells slots Q (F0 m pc ls (.int (jI a) :: rest)) := lv_ineg C.1 C.2.1 hdg (by rw [jI_neg]; exact kk)
theorem jr_idiv {a b : Int} (C : Cx G p s args m c cc nL own) (hne : ¬ jI b = 0) (hdg : decode cc pc = .ok (.idiv, 1)) (kk : W p l e R s m args below meth c H locs cells slots Q (F0 m (pc + 1) ls (.int (jI (jDiv a b)) :: rest))) : W p l e R s m args below meth c H locs cells slots Q (F0 m pc ls (.int (jI b) :: .int (jI a) :: rest)) := lv_idiv C.1 C.2.1 hdg hne (by unfold jDiv at kk; rw [jI_of] at kk; exact kk)
theorem jr_irem {a b : Int} (C : Cx G p s args m c cc nL own) (hne : ¬ jI b = 0) (hdg : decode cc pc = .ok (.irem, 1)) (kk : W p l e R s m args below meth c H locs cells slots Q (F0 m (pc + 1) ls (.int (jI (jRem a b)) :: rest))) : W p l e R s m args below meth c H locs cells slots Q (F0 m pc ls (.int (jI b) :: .int (jI a) :: rest)) := lv_irem C.1 C.2.1 hdg hne (by unfold jRem at kk; rw [jI_of] at kk; exact kk)
theorem jr_iand {a b : Int} (C : Cx G p s args m c cc nL own) (hdg : decode cc pc = .ok (.iand, 1)) (kk : W p l e R s m args below meth c H locs cells slots Q (F0 m (pc + 1) ls (.int (jI (jAnd a b)) :: rest))) : W p l e R s m args below meth c H locs cells slots Q (F0 m pc ls (.int (jI b) :: .int (jI a) :: rest)) := lv_iand C.1 C.2.1 hdg (by unfold jAnd at kk; rw [jI_of] at kk; exact kk)
theorem jr_ior {a b : Int} (C : Cx G p s args m c cc nL own) (hdg : decode cc pc = .ok (.ior, 1)) (kk : W p l e R s m args below meth c H locs cells slots Q (F0 m (pc + 1) ls (.int (jI (jOr a b)) :: rest))) : W p l e R s m args below meth c H locs cells slots Q (F0 m pc ls (.int (jI b) :: .int (jI a) :: rest)) := lv_ior C.1 C.2.1 hdg (by unfold jOr at kk; rw [jI_of] at kk; exact kk)
theorem jr_ixor {a b : Int} (C : Cx G p s args m c cc nL own) (hdg : decode cc pc = .ok (.ixor, 1)) (kk : W p l e R s m args below meth c H locs cells slots Q (F0 m (pc + 1) ls (.int (jI (jXor a b)) :: rest))) : W p l e R s m args below meth c H locs cells slots Q (F0 m pc ls (.int (jI b) :: .int (jI a) :: rest)) := lv_ixor C.1 C.2.1 hdg (by unfold jXor at kk; rw [jI_of] at kk; exact kk)
theorem jr_ishl {a b : Int} (C : Cx G p s args m c cc nL own) (hdg : decode cc pc = .ok (.ishl, 1)) (kk : W p l e R s m args below meth c H locs cells slots Q (F0 m (pc + 1) ls (.int (jI (jShl a b)) :: rest))) : W p l e R s m args below meth c H locs cells slots Q (F0 m pc ls (.int (jI b) :: .int (jI a) :: rest)) := lv_ishl C.1 C.2.1 hdg (by unfold jShl at kk; rw [jI_of] at kk; exact kk)
theorem jr_ishr {a b : Int} (C : Cx G p s args m c cc nL own) (hdg : decode cc pc = .ok (.ishr, 1)) (kk : W p l e R s m args below meth c H locs cells slots Q (F0 m (pc + 1) ls (.int (jI (jShr a b)) :: rest))) : W p l e R s m args below meth c H locs cells slots Q (F0 m pc ls (.int (jI b) :: .int (jI a) :: rest)) := lv_ishr C.1 C.2.1 hdg (by unfold jShr at kk; rw [jI_of] at kk; exact kk)
theorem jr_i2c {a : Int} (C : Cx G p s args m c cc nL own) (hdg : decode cc pc = .ok (.i2c, 1)) (kk : W p l e R s m args below meth c H locs cells slots Q (F0 m (pc + 1) ls (.int (jI (jChr a)) :: rest))) : W p l e R s m args below meth c H locs cells slots Q (F0 m pc ls (.int (jI a) :: rest)) := lv_i2c C.1 C.2.1 hdg (jI_chr a) kk
theorem jr_dup2 {v w : Value} (C : Cx G p s args m c cc nL own) (hv : v.category = 1) (hw : w.category = 1) (hdg : decode cc pc = .ok (.dup2, 1)) (kk : W p l e R s m args below meth c H locs cells slots Q (F0 m (pc + 1) ls (v :: w :: v :: w :: rest))) : W p l e R s m args below meth c H locs cells slots Q (F0 m pc ls (v :: w :: rest)) := lv_dup2_11 C.1 C.2.1 hdg hv hw kk
theorem jr_iinc {i k : Nat} {n x : Int} {lv : List (Nat × Value)} {lv' : Int → List (Nat × Value)} {P : Int → Prop} (C : Cx G p s args m c cc nL own) (h : jL (jW (x + n)) P) (hl : lv_has ls nL lv) (hk : lv[k]? = some (i, .int (jI x))) (hn : i < nL) (hlv : ∀ y : Int, (i, Value.int (jI y)) :: lv.filter (fun q => !(q.1 == i) && !(q.1 + 1 == i && q.2.category == 2)) = lv' y) (hdg : decode cc pc = .ok (.iinc i n, 3))
    (kk : ∀ (y : Int), P y → jR y → ∀ ls' : Array Slot, lv_has ls' nL (lv' y) → W p l e R s m args below meth c H locs cells slots Q (F0 m (pc + 3) ls' rest)) : W p l e R s m args below meth c H locs cells slots Q (F0 m pc ls rest) :=
  lv_iinc (v := jI (jW (x + n))) C.1 C.2.1 hdg hl hk (by rw [← jI_add]; rfl) hn (hlv _) (fun ls' h' => kk _ h (jW_R _) ls' h')
theorem jr_if_eq {x : Int} {off : Int} {tgt : Nat} {P P2 : Prop} (C : Cx G p s args m c cc nL own) (hx : jR x) (h : if x = 0 then P else P2) (hdg : decode cc pc = .ok (.ifCond .eq off, 3)) (ht : (pc : Int) + off = (tgt : Int))
    (k1 : x = 0 → P → W p l e R s m args below meth c H locs cells slots Q (F0 m tgt ls rest)) (k2 : ¬ x = 0 → P2 → W p l e R s m args below meth c H locs cells slots Q (F0 m (pc + 3) ls rest)) : W p l e R s m args below meth c H locs cells slots Q (F0 m pc ls (.int (jI x) :: rest)) := by
  have ee : (jI x = 0) ↔ x = 0 := jI_eq hx (by decide : jR 0)
  have a1 : (jI x = 0) → W p l e R s m args below meth c H locs cells slots Q (F0 m tgt ls rest) := fun q => k1 (ee.mp q) (by rw [if_pos (ee.mp q)] at h; exact h)
  have a2 : ¬ (jI x = 0) → W p l e R s m args below meth c H locs cells slots Q (F0 m (pc + 3) ls rest) := fun q => k2 (fun z => q (ee.mpr z)) (by rw [if_neg (fun z => q (ee.mpr z))] at h; exact h)
  -- kt : x = 0 ; kf : ¬ x = 0
  by_cases z : jI x = 0
  · exact lv_if_eq C.1 C.2.1 hdg ht (fun q => a1 z) (fun q => absurd q (by first | exact fun y => y z | exact fun y => absurd z (by simpa using y) | (simp; exact z)))
  · exact lv_if_eq C.1 C.2.1 hdg ht (fun q => absurd q (by first | exact z | exact fun y => z (by simpa using y))) (fun q => a2 z)
theorem jr_if_ne {x : Int} {off : Int} {tgt : Nat} {P P2 : Prop} (C : Cx G p s args m c cc nL own) (hx : jR x) (h : if x = 0 then P else P2) (hdg : decode cc pc = .ok (.ifCond .ne off, 3)) (ht : (pc : Int) + off = (tgt : Int))
    (k1 : x = 0 → P → W p l e R s m args below meth c H locs cells slots Q (F0 m (pc + 3) ls rest)) (k2 : ¬ x = 0 → P2 → W p l e R s m args below meth c H locs cells slots Q (F0 m tgt ls rest)) : W p l e R s m args below meth c H locs cells slots Q (F0 m pc ls (.int (jI x) :: rest)) := by
  have ee : (jI x = 0) ↔ x = 0 := jI_eq hx (by decide : jR 0)
  have a1 : (jI x = 0) → W p l e R s m args below meth c H locs cells slots Q (F0 m (pc + 3) ls rest) := fun q => k1 (ee.mp q) (by rw [if_pos (ee.mp q)] at h; exact h)
  have a2 : ¬ (jI x = 0) → W p l e R s m args below meth c H locs cells slots Q (F0 m tgt ls rest) := fun q => k2 (fun z => q (ee.mpr z)) (by rw [if_neg (fun z => q (ee.mpr z))] at h; exact h)
  -- kt : ¬ x = 0 ; kf : x = 0
  by_cases z : jI x = 0
  · exact lv_if_ne C.1 C.2.1 hdg ht (fun q => absurd q (by first | exact fun y => y z | exact Int32.not_lt.mpr z | exact Int32.not_le.mpr z | exact fun y => absurd z (by simpa using y) | (simp; exact z))) (fun q => a1 z)
  · exact lv_if_ne C.1 C.2.1 hdg ht (fun q => a2 z) (fun q => absurd q (by first | exact z | exact fun y => y z | exact fun y => y (by first | exact z | exact Int32.not_lt.mp z | exact Int32.not_le.mp z)))
theorem jr_if_lt {x : Int} {off : Int} {tgt : Nat} {P P2 : Prop} (C : Cx G p s args m c cc nL own) (hx : jR x) (h : if x < 0 then P else P2) (hdg : decode cc pc = .ok (.ifCond .lt off, 3)) (ht : (pc : Int) + off = (tgt : Int))
    (k1 : x < 0 → P → W p l e R s m args below meth c H locs cells slots Q (F0 m tgt ls rest)) (k2 : ¬ x < 0 → P2 → W p l e R s m args below meth c H locs cells slots Q (F0 m (pc + 3) ls rest)) : W p l e R s m args below meth c H locs cells slots Q (F0 m pc ls (.int (jI x) :: rest)) := by
  have ee : (jI x < 0) ↔ x < 0 := jI_lt hx (by decide : jR 0)
  have a1 : (jI x < 0) → W p l e R s m args below meth c H locs cells slots Q (F0 m tgt ls rest) := fun q => k1 (ee.mp q) (by rw [if_pos (ee.mp q)] at h; exact h)
  have a2 : ¬ (jI x < 0) → W p l e R s m args below meth c H locs cells slots Q (F0 m (pc + 3) ls rest) := fun q => k2 (fun z => q (ee.mpr z)) (by rw [if_neg (fun z => q (ee.mpr z))] at h; exact h)
  -- kt : x < 0 ; kf : ¬ x < 0
  by_cases z : jI x < 0
  · exact lv_if_lt C.1 C.2.1 hdg ht (fun q => a1 z) (fun q => absurd q (by first | exact fun y => y z | exact fun y => absurd z (by simpa using y) | (simp; exact z)))
  · exact lv_if_lt C.1 C.2.1 hdg ht (fun q => absurd q (by first | exact z | exact fun y => z (by simpa using y))) (fun q => a2 z)
theorem jr_if_ge {x : Int} {off : Int} {tgt : Nat} {P P2 : Prop} (C : Cx G p s args m c cc nL own) (hx : jR x) (h : if x < 0 then P else P2) (hdg : decode cc pc = .ok (.ifCond .ge off, 3)) (ht : (pc : Int) + off = (tgt : Int))
    (k1 : x < 0 → P → W p l e R s m args below meth c H locs cells slots Q (F0 m (pc + 3) ls rest)) (k2 : ¬ x < 0 → P2 → W p l e R s m args below meth c H locs cells slots Q (F0 m tgt ls rest)) : W p l e R s m args below meth c H locs cells slots Q (F0 m pc ls (.int (jI x) :: rest)) := by
  have ee : (jI x < 0) ↔ x < 0 := jI_lt hx (by decide : jR 0)
  have a1 : (jI x < 0) → W p l e R s m args below meth c H locs cells slots Q (F0 m (pc + 3) ls rest) := fun q => k1 (ee.mp q) (by rw [if_pos (ee.mp q)] at h; exact h)
  have a2 : ¬ (jI x < 0) → W p l e R s m args below meth c H locs cells slots Q (F0 m tgt ls rest) := fun q => k2 (fun z => q (ee.mpr z)) (by rw [if_neg (fun z => q (ee.mpr z))] at h; exact h)
  -- kt : 0 ≤ x ; kf : ¬ 0 ≤ x
  by_cases z : jI x < 0
  · exact lv_if_ge C.1 C.2.1 hdg ht (fun q => absurd q (by first | exact fun y => y z | exact Int32.not_lt.mpr z | exact Int32.not_le.mpr z | exact fun y => absurd z (by simpa using y) | (simp; exact z))) (fun q => a1 z)
  · exact lv_if_ge C.1 C.2.1 hdg ht (fun q => a2 z) (fun q => absurd q (by first | exact z | exact fun y => y z | exact fun y => y (by first | exact z | exact Int32.not_lt.mp z | exact Int32.not_le.mp z)))
theorem jr_if_gt {x : Int} {off : Int} {tgt : Nat} {P P2 : Prop} (C : Cx G p s args m c cc nL own) (hx : jR x) (h : if x ≤ 0 then P else P2) (hdg : decode cc pc = .ok (.ifCond .gt off, 3)) (ht : (pc : Int) + off = (tgt : Int))
    (k1 : x ≤ 0 → P → W p l e R s m args below meth c H locs cells slots Q (F0 m (pc + 3) ls rest)) (k2 : ¬ x ≤ 0 → P2 → W p l e R s m args below meth c H locs cells slots Q (F0 m tgt ls rest)) : W p l e R s m args below meth c H locs cells slots Q (F0 m pc ls (.int (jI x) :: rest)) := by
  have ee : (jI x ≤ 0) ↔ x ≤ 0 := jI_le hx (by decide : jR 0)
  have a1 : (jI x ≤ 0) → W p l e R s m args below meth c H locs cells slots Q (F0 m (pc + 3) ls rest) := fun q => k1 (ee.mp q) (by rw [if_pos (ee.mp q)] at h; exact h)
  have a2 : ¬ (jI x ≤ 0) → W p l e R s m args below meth c H locs cells slots Q (F0 m tgt ls rest) := fun q => k2 (fun z => q (ee.mpr z)) (by rw [if_neg (fun z => q (ee.mpr z))] at h; exact h)
  -- kt : 0 < x ; kf : ¬ 0 < x
  by_cases z : jI x ≤ 0
  · exact lv_if_gt C.1 C.2.1 hdg ht (fun q => absurd q (by first | exact fun y => y z | exact Int32.not_lt.mpr z | exact Int32.not_le.mpr z | exact fun y => absurd z (by simpa using y) | (simp; exact z))) (fun q => a1 z)
  · exact lv_if_gt C.1 C.2.1 hdg ht (fun q => a2 z) (fun q => absurd q (by first | exact z | exact fun y => y z | exact fun y => y (by first | exact z | exact Int32.not_lt.mp z | exact Int32.not_le.mp z)))
theorem jr_if_le {x : Int} {off : Int} {tgt : Nat} {P P2 : Prop} (C : Cx G p s args m c cc nL own) (hx : jR x) (h : if x ≤ 0 then P else P2) (hdg : decode cc pc = .ok (.ifCond .le off, 3)) (ht : (pc : Int) + off = (tgt : Int))
    (k1 : x ≤ 0 → P → W p l e R s m args below meth c H locs cells slots Q (F0 m tgt ls rest)) (k2 : ¬ x ≤ 0 → P2 → W p l e R s m args below meth c H locs cells slots Q (F0 m (pc + 3) ls rest)) : W p l e R s m args below meth c H locs cells slots Q (F0 m pc ls (.int (jI x) :: rest)) := by
  have ee : (jI x ≤ 0) ↔ x ≤ 0 := jI_le hx (by decide : jR 0)
  have a1 : (jI x ≤ 0) → W p l e R s m args below meth c H locs cells slots Q (F0 m tgt ls rest) := fun q => k1 (ee.mp q) (by rw [if_pos (ee.mp q)] at h; exact h)
  have a2 : ¬ (jI x ≤ 0) → W p l e R s m args below meth c H locs cells slots Q (F0 m (pc + 3) ls rest) := fun q => k2 (fun z => q (ee.mpr z)) (by rw [if_neg (fun z => q (ee.mpr z))] at h; exact h)
  -- kt : x ≤ 0 ; kf : ¬ x ≤ 0
  by_cases z : jI x ≤ 0
  · exact lv_if_le C.1 C.2.1 hdg ht (fun q => a1 z) (fun q => absurd q (by first | exact fun y => y z | exact fun y => absurd z (by simpa using y) | (simp; exact z)))
  · exact lv_if_le C.1 C.2.1 hdg ht (fun q => absurd q (by first | exact z | exact fun y => z (by simpa using y))) (fun q => a2 z)
theorem jr_icmp_eq {a b : Int} {off : Int} {tgt : Nat} {P P2 : Prop} (C : Cx G p s args m c cc nL own) (ha : jR a) (hb : jR b) (h : if a = b then P else P2) (hdg : decode cc pc = .ok (.if_icmp .eq off, 3)) (ht : (pc : Int) + off = (tgt : Int))
    (k1 : a = b → P → W p l e R s m args below meth c H locs cells slots Q (F0 m tgt ls rest)) (k2 : ¬ a = b → P2 → W p l e R s m args below meth c H locs cells slots Q (F0 m (pc + 3) ls rest)) : W p l e R s m args below meth c H locs cells slots Q (F0 m pc ls (.int (jI b) :: .int (jI a) :: rest)) := by
  have ee : (jI a = jI b) ↔ a = b := jI_eq ha hb
  have a1 : (jI a = jI b) → W p l e R s m args below meth c H locs cells slots Q (F0 m tgt ls rest) := fun q => k1 (ee.mp q) (by rw [if_pos (ee.mp q)] at h; exact h)
  have a2 : ¬ (jI a = jI b) → W p l e R s m args below meth c H locs cells slots Q (F0 m (pc + 3) ls rest) := fun q => k2 (fun z => q (ee.mpr z)) (by rw [if_neg (fun z => q (ee.mpr z))] at h; exact h)
  -- kt : x = y ; kf : ¬ x = y
  by_cases z : jI a = jI b
  · exact lv_icmp_eq C.1 C.2.1 hdg ht (fun q => a1 z) (fun q => absurd q (by first | exact fun y => y z | (simp; exact z)))
  · exact lv_icmp_eq C.1 C.2.1 hdg ht (fun q => absurd q (by first | exact z | exact fun y => z (by simpa using y))) (fun q => a2 z)
theorem jr_icmp_ne {a b : Int} {off : Int} {tgt : Nat} {P P2 : Prop} (C : Cx G p s args m c cc nL own) (ha : jR a) (hb : jR b) (h : if a = b then P else P2) (hdg : decode cc pc = .ok (.if_icmp .ne off, 3)) (ht : (pc : Int) + off = (tgt : Int))
    (k1 : a = b → P → W p l e R s m args below meth c H locs cells slots Q (F0 m (pc + 3) ls rest)) (k2 : ¬ a = b → P2 → W p l e R s m args below meth c H locs cells slots Q (F0 m tgt ls rest)) : W p l e R s m args below meth c H locs cells slots Q (F0 m pc ls (.int (jI b) :: .int (jI a) :: rest)) := by
  have ee : (jI a = jI b) ↔ a = b := jI_eq ha hb
  have a1 : (jI a = jI b) → W p l e R s m args below meth c H locs cells slots Q (F0 m (pc + 3) ls rest) := fun q => k1 (ee.mp q) (by rw [if_pos (ee.mp q)] at h; exact h)
  have a2 : ¬ (jI a = jI b) → W p l e R s m args below meth c H locs cells slots Q (F0 m tgt ls rest) := fun q => k2 (fun z => q (ee.mpr z)) (by rw [if_neg (fun z => q (ee.mpr z))] at h; exact h)
  -- kt : ¬ x = y ; kf : x = y
  by_cases z : jI a = jI b
  · exact lv_icmp_ne C.1 C.2.1 hdg ht (fun q => absurd q (by first | exact fun y => y z | exact Int32.not_lt.mpr z | exact Int32.not_le.mpr z | (simp; exact z))) (fun q => a1 z)
  · exact lv_icmp_ne C.1 C.2.1 hdg ht (fun q => a2 z) (fun q => absurd q (by first | exact z | exact fun y => y z | exact fun y => y (by first | exact z | exact Int32.not_lt.mp z | exact Int32.not_le.mp z)))
theorem jr_icmp_lt {a b : Int} {off : Int} {tgt : Nat} {P P2 : Prop} (C : Cx G p s args m c cc nL own) (ha : jR a) (hb : jR b) (h : if a < b then P else P2) (hdg : decode cc pc = .ok (.if_icmp .lt off, 3)) (ht : (pc : Int) + off = (tgt : Int))
    (k1 : a < b → P → W p l e R s m args below meth c H locs cells slots Q (F0 m tgt ls rest)) (k2 : ¬ a < b → P2 → W p l e R s m args below meth c H locs cells slots Q (F0 m (pc + 3) ls rest)) : W p l e R s m args below meth c H locs cells slots Q (F0 m pc ls (.int (jI b) :: .int (jI a) :: rest)) := by
  have ee : (jI a < jI b) ↔ a < b := jI_lt ha hb
  have a1 : (jI a < jI b) → W p l e R s m args below meth c H locs cells slots Q (F0 m tgt ls rest) := fun q => k1 (ee.mp q) (by rw [if_pos (ee.mp q)] at h; exact h)
  have a2 : ¬ (jI a < jI b) → W p l e R s m args below meth c H locs cells slots Q (F0 m (pc + 3) ls rest) := fun q => k2 (fun z => q (ee.mpr z)) (by rw [if_neg (fun z => q (ee.mpr z))] at h; exact h)
  -- kt : x < y ; kf : ¬ x < y
  by_cases z : jI a < jI b
  · exact lv_icmp_lt C.1 C.2.1 hdg ht (fun q => a1 z) (fun q => absurd q (by first | exact fun y => y z | (simp; exact z)))
  · exact lv_icmp_lt C.1 C.2.1 hdg ht (fun q => absurd q (by first | exact z | exact fun y => z (by simpa using y))) (fun q => a2 z)
theorem jr_icmp_ge {a b : Int} {off : Int} {tgt : Nat} {P P2 : Prop} (C : Cx G p s args m c cc nL own) (ha : jR a) (hb : jR b) (h : if a < b then P else P2) (hdg : decode cc pc = .ok (.if_icmp .ge off, 3)) (ht : (pc : Int) + off = (tgt : Int))
    (k1 : a < b → P → W p l e R s m args below meth c H locs cells slots Q (F0 m (pc + 3) ls rest)) (k2 : ¬ a < b → P2 → W p l e R s m args below meth c H locs cells slots Q (F0 m tgt ls rest)) : W p l e R s m args below meth c H locs cells slots Q (F0 m pc ls (.int (jI b) :: .int (jI a) :: rest)) := by
  have ee : (jI a < jI b) ↔ a < b := jI_lt ha hb
  have a1 : (jI a < jI b) → W p l e R s m args below meth c H locs cells slots Q (F0 m (pc + 3) ls rest) := fun q => k1 (ee.mp q) (by rw [if_pos (ee.mp q)] at h; exact h)
  have a2 : ¬ (jI a < jI b) → W p l e R s m args below meth c H locs cells slots Q (F0 m tgt ls rest) := fun q => k2 (fun z => q (ee.mpr z)) (by rw [if_neg (fun z => q (ee.mpr z))] at h; exact h)
  -- kt : y ≤ x ; kf : ¬ y ≤ x
  by_cases z : jI a < jI b
  · exact lv_icmp_ge C.1 C.2.1 hdg ht (fun q => absurd q (by first | exact fun y => y z | exact Int32.not_lt.mpr z | exact Int32.not_le.mpr z | (simp; exact z))) (fun q => a1 z)
  · exact lv_icmp_ge C.1 C.2.1 hdg ht (fun q => a2 z) (fun q => absurd q (by first | exact z | exact fun y => y z | exact fun y => y (by first | exact z | exact Int32.not_lt.mp z | exact Int32.not_le.mp z)))
theorem jr_icmp_gt {a b : Int} {off : Int} {tgt : Nat} {P P2 : Prop} (C : Cx G p s args m c cc nL own) (ha : jR a) (hb : jR b) (h : if a ≤ b then P else P2) (hdg : decode cc pc = .ok (.if_icmp .gt off, 3)) (ht : (pc : Int) + off = (tgt : Int))
    (k1 : a ≤ b → P → W p l e R s m args below meth c H locs cells slots Q (F0 m (pc + 3) ls rest)) (k2 : ¬ a ≤ b → P2 → W p l e R s m args below meth c H locs cells slots Q (F0 m tgt ls rest)) : W p l e R s m args below meth c H locs cells slots Q (F0 m pc ls (.int (jI b) :: .int (jI a) :: rest)) := by
  have ee : (jI a ≤ jI b) ↔ a ≤ b := jI_le ha hb
  have a1 : (jI a ≤ jI b) → W p l e R s m args below meth c H locs cells slots Q (F0 m (pc + 3) ls rest) := fun q => k1 (ee.mp q) (by rw [if_pos (ee.mp q)] at h; exact h)
  have a2 : ¬ (jI a ≤ jI b) → W p l e R s m args below meth c H locs cells slots Q (F0 m tgt ls rest) := fun q => k2 (fun z => q (ee.mpr z)) (by rw [if_neg (fun z => q (ee.mpr z))] at h; exact h)
  -- kt : y < x ; kf : ¬ y < x
  by_cases z : jI a ≤ jI b
  · exact lv_icmp_gt C.1 C.2.1 hdg ht (fun q => absurd q (by first | exact fun y => y z | exact Int32.not_lt.mpr z | exact Int32.not_le.mpr z | (simp; exact z))) (fun q => a1 z)
  · exact lv_icmp_gt C.1 C.2.1 hdg ht (fun q => a2 z) (fun q => absurd q (by first | exact z | exact fun y => y z | exact fun y => y (by first | exact z | exact Int32.not_lt.mp z | exact Int32.not_le.mp z)))
theorem jr_icmp_le {a b : Int} {off : Int} {tgt : Nat} {P P2 : Prop} (C : Cx G p s args m c cc nL own) (ha : jR a) (hb : jR b) (h : if a ≤ b then P else P2) (hdg : decode cc pc = .ok (.if_icmp .le off, 3)) (ht : (pc : Int) + off = (tgt : Int))
    (k1 : a ≤ b → P → W p l e R s m args below meth c H locs cells slots Q (F0 m tgt ls rest)) (k2 : ¬ a ≤ b → P2 → W p l e R s m args below meth c H locs cells slots Q (F0 m (pc + 3) ls rest)) : W p l e R s m args below meth c H locs cells slots Q (F0 m pc ls (.int (jI b) :: .int (jI a) :: rest)) := by
  have ee : (jI a ≤ jI b) ↔ a ≤ b := jI_le ha hb
  have a1 : (jI a ≤ jI b) → W p l e R s m args below meth c H locs cells slots Q (F0 m tgt ls rest) := fun q => k1 (ee.mp q) (by rw [if_pos (ee.mp q)] at h; exact h)
  have a2 : ¬ (jI a ≤ jI b) → W p l e R s m args below meth c H locs cells slots Q (F0 m (pc + 3) ls rest) := fun q => k2 (fun z => q (ee.mpr z)) (by rw [if_neg (fun z => q (ee.mpr z))] at h; exact h)
  -- kt : x ≤ y ; kf : ¬ x ≤ y
  by_cases z : jI a ≤ jI b
  · exact lv_icmp_le C.1 C.2.1 hdg ht (fun q => a1 z) (fun q => absurd q (by first | exact fun y => y z | (simp; exact z)))
  · exact lv_icmp_le C.1 C.2.1 hdg ht (fun q => absurd q (by first | exact z | exact fun y => z (by simpa using y))) (fun q => a2 z)
theorem jr_ifnull {t : Int} {off : Int} {tgt : Nat} {P P2 : Prop} (C : Cx G p s args m c cc nL own) (h : if t < 0 then P else P2) (hdg : decode cc pc = .ok (.ifnull off, 3)) (ht : (pc : Int) + off = (tgt : Int)) (k1 : t < 0 → P → W p l e R s m args below meth c H locs cells slots Q (F0 m tgt ls rest)) (k2 : ¬ t < 0 → P2 → W p l e R s m args below meth c H locs cells slots Q (F0 m (pc + 3) ls rest)) : W p l e R s m args below meth c H locs cells slots Q (F0 m pc ls (jN G t :: rest)) := by
  by_cases z : t < 0
  · rw [jN_null z]
    rw [if_pos z] at h
    exact lv_ifnullN C.1 C.2.1 hdg ht (k1 z h)
  · rw [jN_ref z]
    rw [if_neg z] at h
    exact lv_ifnull C.1 C.2.1 hdg (k2 z h)
theorem jr_ifnonnull {t : Int} {off : Int} {tgt : Nat} {P P2 : Prop} (C : Cx G p s args m c cc nL own) (h : if t < 0 then P else P2) (hdg : decode cc pc = .ok (.ifnonnull off, 3)) (ht : (pc : Int) + off = (tgt : Int)) (k1 : t < 0 → P → W p l e R s m args below meth c H locs cells slots Q (F0 m (pc + 3) ls rest)) (k2 : ¬ t < 0 → P2 → W p l e R s m args below meth c H locs cells slots Q (F0 m tgt ls rest)) : W p l e R s m args below meth c H locs cells slots Q (F0 m pc ls (jN G t :: rest)) := by
  by_cases z : t < 0
  · rw [jN_null z]
    rw [if_pos z] at h
    exact lv_ifnonnullN C.1 C.2.1 hdg (k1 z h)
  · rw [jN_ref z]
    rw [if_neg z] at h
    exact lv_ifnonnull C.1 C.2.1 hdg ht (k2 z h)
theorem jr_aload_nN {k : Fin 4} {i : Nat} {t : Int} (C : Cx G p s args m c cc nL own) (hdg : decode cc pc = .ok (.aload_n k, 1)) (hi : (k : Nat) = i) (hl : ls[i]? = some (.val (jN G t))) (kk : W p l e R s m args below meth c H locs cells slots Q (F0 m (pc + 1) ls (jN G t :: rest))) : W p l e R s m args below meth c H locs cells slots Q (F0 m pc ls rest) := by
  by_cases z : t < 0
  · rw [jN_null z] at hl kk
    exact lv_aload_nN C.1 C.2.1 hdg hi hl kk
  · rw [jN_ref z] at hl kk
    exact lv_aload_n C.1 C.2.1 hdg hi hl kk
theorem jr_aloadN {i : Nat} {t : Int} (C : Cx G p s args m c cc nL own) (hdg : decode cc pc = .ok (.aload i, 2)) (hl : ls[i]? = some (.val (jN G t))) (kk : W p l e R s m args below meth c H locs cells slots Q (F0 m (pc + 2) ls (jN G t :: rest))) : W p l e R s m args below meth c H locs cells slots Q (F0 m pc ls rest) := by
  by_cases z : t < 0
  · rw [jN_null z] at hl kk
    exact lv_aloadN C.1 C.2.1 hdg hl kk
  · rw [jN_ref z] at hl kk
    exact lv_aload C.1 C.2.1 hdg hl kk
theorem jr_astore_nN {k : Fin 4} {i : Nat} {t : Int} {lv lv' : List (Nat × Value)} (C : Cx G p s args m c cc nL own) (hdg : decode cc pc = .ok (.astore_n k, 1)) (hi : (k : Nat) = i) (h : lv_has ls nL lv) (hn : i < nL) (hl : (i, jN G t) :: lv.filter (fun q => !(q.1 == i) && !(q.1 + 1 == i && q.2.category == 2)) = lv') (kk : ∀ ls' : Array Slot, lv_has ls' nL lv' → W p l e R s m args below meth c H locs cells slots Q (F0 m (pc + 1) ls' rest)) : W p l e R s m args below meth c H locs cells slots Q (F0 m pc ls (jN G t :: rest)) := by
  by_cases z : t < 0
  · rw [jN_null z] at hl ⊢
    exact lv_astore_nN C.1 C.2.1 hdg hi h hn hl kk
  · rw [jN_ref z] at hl ⊢
    exact lv_astore_n C.1 C.2.1 hdg hi h hn hl kk
theorem jr_astoreN {i : Nat} {t : Int} {lv lv' : List (Nat × Value)} (C : Cx G p s args m c cc nL own) (hdg : decode cc pc = .ok (.astore i, 2)) (h : lv_has ls nL lv) (hn : i < nL) (hl : (i, jN G t) :: lv.filter (fun q => !(q.1 == i) && !(q.1 + 1 == i && q.2.category == 2)) = lv') (kk : ∀ ls' : Array Slot, lv_has ls' nL lv' → W p l e R s m args below meth c H locs cells slots Q (F0 m (pc + 2) ls' rest)) : W p l e R s m args below meth c H locs cells slots Q (F0 m pc ls (jN G t :: rest)) := by
  by_cases z : t < 0
  · rw [jN_null z] at hl ⊢
    exact lv_astoreN C.1 C.2.1 hdg h hn hl kk
  · rw [jN_ref z] at hl ⊢
    exact lv_astore C.1 C.2.1 hdg h hn hl kk
theorem jr_tableIn {dflt lo hi : Int} {offs : Array Int} {len : Nat} {x v : Int} {off : Int} {tgt : Nat} (C : Cx G p s args m c cc nL own) (hr : jR x) (hx : x = v) (h1 : ¬ v < lo) (h2 : ¬ hi < v) (ho : offs[(v - lo).toNat]? = some off) (hdg : decode cc pc = .ok (.tableswitch dflt lo hi offs, len)) (ht : (pc : Int) + off = (tgt : Int)) (kk : W p l e R s m args below meth c H locs cells slots Q (F0 m tgt ls rest)) : W p l e R s m args below meth c H locs cells slots Q (F0 m pc ls (.int (jI x) :: rest)) := by
  subst hx
  exact lv_tableIn C.1 C.2.1 hdg (by rw [jI_toInt hr]; exact h1) (by rw [jI_toInt hr]; exact h2) (by rw [jI_toInt hr]; exact ho) ht kk
theorem jr_tableOut {dflt lo hi : Int} {offs : Array Int} {len : Nat} {x : Int} {tgt : Nat} (C : Cx G p s args m c cc nL own) (hr : jR x) (h1 : x < lo ∨ hi < x) (hdg : decode cc pc = .ok (.tableswitch dflt lo hi offs, len)) (ht : (pc : Int) + dflt = (tgt : Int)) (kk : W p l e R s m args below meth c H locs cells slots Q (F0 m tgt ls rest)) : W p l e R s m args below meth c H locs cells slots Q (F0 m pc ls (.int (jI x) :: rest)) :=
  lv_tableOut C.1 C.2.1 hdg (by rw [jI_toInt hr]; exact h1) ht kk
theorem jr_lookup {dflt : Int} {ps : Array (Int × Int)} {len : Nat} {x : Int} {off : Int} {tgt : Nat} (C : Cx G p s args m c cc nL own) (hr : jR x) (hp : (ps.toList.zip (ps.toList.drop 1)).all (fun (a, next) => a.1 < next.1) = true) (ho : Op.lookupswitch.offset ps.toList dflt x = off) (hdg : decode cc pc = .ok (.lookupswitch dflt ps, len)) (ht : (pc : Int) + off = (tgt : Int)) (kk : W p l e R s m args below meth c H locs cells slots Q (F0 m tgt ls rest)) : W p l e R s m args below meth c H locs cells slots Q (F0 m pc ls (.int (jI x) :: rest)) :=
  lv_lookup C.1 C.2.1 hdg hp (by rw [jI_toInt hr]; exact ho) ht kk
theorem jr_mmax {idx : Nat} {a b : Int} (C : Cx G p s args m c cc nL own) (hl : ls.size = nL) (q1 : Cond.methodLink own idx Lib.Math.max.name ∈ tb) (q2 : Cond.static Lib.Math.max.name ∈ tb) (q3 : Cond.initialized "java/lang/Math" ∈ tb) (q4 : Cond.code Lib.Math.max.name Lib.Math.max.code 2 (some .int) ∈ tb) (ha : jR a) (hb : jR b) (hf : 1 ≤ R.frames) (hlo : (rest.map fun v => v.category).sum + 13 ≤ R.locals) (hcs : cells ≤ R.cells ∧ slots ≤ R.slots) (hdg : decode cc pc = .ok (.invokestatic idx, 3)) (kk : W p l e R s m args below meth c H locs cells slots Q (F0 m (pc + 3) ls (.int (jI (jMax a b)) :: rest))) : W p l e R s m args below meth c H locs cells slots Q (F0 m pc ls (.int (jI b) :: .int (jI a) :: rest)) :=
  va_mmax C.1 C.2.1 (C.2.2.1.trans hl.symm) C.2.2.2.1 (C.2.2.2.2.1 _ q1) (C.2.2.2.2.1 _ q2) (C.2.2.2.2.1 _ q3) (C.2.2.2.2.1 _ q4) hf hlo hcs.1 hcs.2 hdg (by rw [jI_max ha hb]; exact kk)
theorem jr_mmin {idx : Nat} {a b : Int} (C : Cx G p s args m c cc nL own) (hl : ls.size = nL) (q1 : Cond.methodLink own idx Lib.Math.min.name ∈ tb) (q2 : Cond.static Lib.Math.min.name ∈ tb) (q3 : Cond.initialized "java/lang/Math" ∈ tb) (q4 : Cond.code Lib.Math.min.name Lib.Math.min.code 2 (some .int) ∈ tb) (ha : jR a) (hb : jR b) (hf : 1 ≤ R.frames) (hlo : (rest.map fun v => v.category).sum + 13 ≤ R.locals) (hcs : cells ≤ R.cells ∧ slots ≤ R.slots) (hdg : decode cc pc = .ok (.invokestatic idx, 3)) (kk : W p l e R s m args below meth c H locs cells slots Q (F0 m (pc + 3) ls (.int (jI (jMin a b)) :: rest))) : W p l e R s m args below meth c H locs cells slots Q (F0 m pc ls (.int (jI b) :: .int (jI a) :: rest)) :=
  va_mmin C.1 C.2.1 (C.2.2.1.trans hl.symm) C.2.2.2.1 (C.2.2.2.2.1 _ q1) (C.2.2.2.2.1 _ q2) (C.2.2.2.2.1 _ q3) (C.2.2.2.2.1 _ q4) hf hlo hcs.1 hcs.2 hdg (by rw [jI_min ha hb]; exact kk)
theorem jr_mabs {idx : Nat} {a : Int} (C : Cx G p s args m c cc nL own) (hl : ls.size = nL) (q1 : Cond.methodLink own idx Lib.Math.abs.name ∈ tb) (q2 : Cond.static Lib.Math.abs.name ∈ tb) (q3 : Cond.initialized "java/lang/Math" ∈ tb) (q4 : Cond.code Lib.Math.abs.name Lib.Math.abs.code 1 (some .int) ∈ tb) (ha : jR a) (hf : 1 ≤ R.frames) (hlo : (rest.map fun v => v.category).sum + 13 ≤ R.locals) (hcs : cells ≤ R.cells ∧ slots ≤ R.slots) (hdg : decode cc pc = .ok (.invokestatic idx, 3)) (kk : W p l e R s m args below meth c H locs cells slots Q (F0 m (pc + 3) ls (.int (jI (jAbs a)) :: rest))) : W p l e R s m args below meth c H locs cells slots Q (F0 m pc ls (.int (jI a) :: rest)) := by
  exact va_mabs C.1 C.2.1 (C.2.2.1.trans hl.symm) C.2.2.2.1 (C.2.2.2.2.1 _ q1) (C.2.2.2.2.1 _ q2) (C.2.2.2.2.1 _ q3) (C.2.2.2.2.1 _ q4) hf hlo hcs.1 hcs.2 hdg (by rw [jI_abs ha]; exact kk)
end JI
