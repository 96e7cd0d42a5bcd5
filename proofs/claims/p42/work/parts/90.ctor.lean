/-! THE CONSTRUCTORS, each over all the cells that there are -/
theorem k_16 : (Cond.instanceMethod ({ cls := "java/lang/Object", name := "<init>", desc := "()V" } : MethodName)) ∈ tb := tb_mem (List.mem_of_getElem? (i := 16) (by decide +kernel)) (by decide +kernel)
theorem k_17 : (Cond.code objectInit ⟨#[0xb1]⟩ 1 none) ∈ tb := tb_mem (List.mem_of_getElem? (i := 17) (by decide +kernel)) (by decide +kernel)
theorem k_26 : (Cond.instantiable "MultiValueFile$FileRecord" (5 : Nat)) ∈ tb := tb_mem (List.mem_of_getElem? (i := 26) (by decide +kernel)) (by decide +kernel)
theorem k_28 : (Cond.instanceMethod ({ cls := "MultiValueFile$FileRecord", name := "<init>", desc := "()V" } : MethodName)) ∈ tb := tb_mem (List.mem_of_getElem? (i := 28) (by decide +kernel)) (by decide +kernel)
theorem k_29 : (Cond.code ({ cls := "MultiValueFile$FileRecord", name := "<init>", desc := "()V" } : MethodName) prog_3_method_1_code (1 : Nat) (Option.none : Option ClassFile.FieldType)) ∈ tb := tb_mem (List.mem_of_getElem? (i := 29) (by decide +kernel)) (by decide +kernel)
theorem k_30 : (Cond.methodLink "MultiValueFile$FileRecord" (3 : Nat) ({ cls := "java/lang/Object", name := "<init>", desc := "()V" } : MethodName)) ∈ tb := tb_mem (List.mem_of_getElem? (i := 30) (by decide +kernel)) (by decide +kernel)
theorem k_52 : (Cond.arrayClass ClassFile.FieldType.int) ∈ tb := tb_mem (List.mem_of_getElem? (i := 52) (by decide +kernel)) (by decide +kernel)
theorem k_92 : (Cond.methodLink "MultiValueFile$Signs" (1 : Nat) ({ cls := "java/lang/Object", name := "<init>", desc := "()V" } : MethodName)) ∈ tb := tb_mem (List.mem_of_getElem? (i := 92) (by decide +kernel)) (by decide +kernel)
theorem k_102 : (Cond.arrayClass ClassFile.FieldType.char) ∈ tb := tb_mem (List.mem_of_getElem? (i := 102) (by decide +kernel)) (by decide +kernel)
theorem k_108 : (Cond.methodLink "MultiValueFile$TextReader" (3 : Nat) ({ cls := "java/lang/Object", name := "<init>", desc := "()V" } : MethodName)) ∈ tb := tb_mem (List.mem_of_getElem? (i := 108) (by decide +kernel)) (by decide +kernel)
theorem k_109 : (Cond.classLink "MultiValueFile$TextReader" (9 : Nat) "MultiValueFile$FileRecord") ∈ tb := tb_mem (List.mem_of_getElem? (i := 109) (by decide +kernel)) (by decide +kernel)
theorem k_110 : (Cond.methodLink "MultiValueFile$TextReader" (11 : Nat) ({ cls := "MultiValueFile$FileRecord", name := "<init>", desc := "()V" } : MethodName)) ∈ tb := tb_mem (List.mem_of_getElem? (i := 110) (by decide +kernel)) (by decide +kernel)
theorem k_133 : (Cond.methodLink "MultiValueFile$Sequence" (3 : Nat) ({ cls := "java/lang/Object", name := "<init>", desc := "()V" } : MethodName)) ∈ tb := tb_mem (List.mem_of_getElem? (i := 133) (by decide +kernel)) (by decide +kernel)
theorem k_149 : (Cond.methodLink "MultiValueFile$ExplodedList" (3 : Nat) ({ cls := "java/lang/Object", name := "<init>", desc := "()V" } : MethodName)) ∈ tb := tb_mem (List.mem_of_getElem? (i := 149) (by decide +kernel)) (by decide +kernel)
set_option maxHeartbeats 4000000 in
theorem b_X1 {l : Launch} {G : jG} {n k : Nat} {E : Nat → va_E} (hk : k < n) (hE : E k = .inr (1, [.int 0, .int 0, .null, .null, .null])) : Met l yX1_init (wsG yX1_init cX1_init 1 none) { frames := 1, cells := 3, slots := 104, locals := 20 } (kPc G n E [.ref (G.2.2 + k)]) (kQ G (n + 3) (fun u : Nat → va_E => (∀ j, j < n → j ≠ k → u j = E j) ∧ u k = .inr (1, [.int (jI 0), .int (jI (-1000007)), .ref (G.2.2 + n), .ref (G.2.2 + (n + 1)), .ref (G.2.2 + (n + 2))]) ∧ u n = .inl (G.2.1.1, 4, .inl (fun _ => 0)) ∧ u (n + 1) = .inl (G.2.1.1, 20, .inl (fun _ => 0)) ∧ u (n + 2) = .inl (G.2.1.1, 80, .inl (fun _ => 0)))) 3 104 (gB G) := by
  refine kr_start RX1 rfl (by decide) (Nat.le_of_ble_eq_true rfl) ?_
  intro p e s m args below meth c ls C hA hz hini hr hlocks hl B
  have hini : meth.name = "<init>" := hini
  have hl : lv_has ls 1 [(0, .ref (G.2.2 + k))] := hl
  refine lv_aload_n C.1 C.2.1 dX1_init_0 rfl (lv_at hl 0 rfl) ?_
  refine kr_obj C hl.1 k_30 k_16 k_17 ⟨(Nat.le_of_ble_eq_true rfl), (Nat.le_of_ble_eq_true rfl)⟩ (Nat.le_of_ble_eq_true rfl) dX1_init_1 ?_
  refine lv_aload_n C.1 C.2.1 dX1_init_4 rfl (lv_at hl 0 rfl) ?_
  refine jr_iconst C dX1_init_5 ?_
  refine kr_put C B (ci := 1) (N := 5) (k := k) (fs := [.int 0, .int 0, .null, .null, .null]) (by omega) (by first | (simp (disch := omega) only [eU_ne, eU_eq]; done) | (simp (disch := omega) only [eU_ne, eU_eq]; rfl) | (simp (disch := omega) only [eU_ne, eU_eq]; exact hE) | exact hE | rfl) rfl inT1 tyX1 tyX1_ok nmX1 0 (by decide) q_32 rfl rfl rfl (Nat.le_of_ble_eq_true rfl) dX1_init_6 (fun H locs B => ?_)
  refine lv_aload_n C.1 C.2.1 dX1_init_9 rfl (lv_at hl 0 rfl) ?_
  refine jr_ldc C (n := -1000007) q_31 (by decide) dX1_init_10 ?_
  refine kr_put C B (ci := 1) (N := 5) (k := k) (fs := [.int (jI 0), .int 0, .null, .null, .null]) (by omega) (by first | (simp (disch := omega) only [eU_ne, eU_eq]; done) | (simp (disch := omega) only [eU_ne, eU_eq]; rfl) | (simp (disch := omega) only [eU_ne, eU_eq]; exact hE) | exact hE | rfl) rfl inT1 tyX1 tyX1_ok nmX1 1 (by decide) q_35 rfl rfl rfl (Nat.le_of_ble_eq_true rfl) dX1_init_12 (fun H locs B => ?_)
  refine lv_aload_n C.1 C.2.1 dX1_init_15 rfl (lv_at hl 0 rfl) ?_
  refine jr_iconst C dX1_init_16 ?_
  refine kr_newa C B (n1 := n + 1) (tk := 0) (atype := .int) (cA := G.2.1.1) (N' := 4) (by omega) (by omega) (by omega) k_52 rfl rfl rfl (by decide) (by decide) (Nat.le_of_ble_eq_true rfl) (Nat.le_of_ble_eq_true rfl) (Nat.le_of_ble_eq_true rfl) dX1_init_17 (fun H B => ?_)
  refine kr_putF C B hini (ci := 1) (N := 5) (k := k) (fs := [.int (jI 0), .int (jI (-1000007)), .null, .null, .null]) (by omega) (by first | (simp (disch := omega) only [eU_ne, eU_eq]; done) | (simp (disch := omega) only [eU_ne, eU_eq]; rfl) | (simp (disch := omega) only [eU_ne, eU_eq]; exact hE) | exact hE | rfl) rfl inT1 tyX1 tyX1_ok nmX1 2 (by decide) q_38 rfl rfl rfl rfl (Nat.le_of_ble_eq_true rfl) dX1_init_19 (fun H locs B => ?_)
  refine lv_aload_n C.1 C.2.1 dX1_init_22 rfl (lv_at hl 0 rfl) ?_
  refine jr_bipush C dX1_init_23 (by decide) ?_
  refine kr_newa C B (n1 := n + 2) (tk := 0) (atype := .int) (cA := G.2.1.1) (N' := 20) (by omega) (by omega) (by omega) k_52 rfl rfl rfl (by decide) (by decide) (Nat.le_of_ble_eq_true rfl) (Nat.le_of_ble_eq_true rfl) (Nat.le_of_ble_eq_true rfl) dX1_init_25 (fun H B => ?_)
  refine kr_putF C B hini (ci := 1) (N := 5) (k := k) (fs := [.int (jI 0), .int (jI (-1000007)), .ref (G.2.2 + n), .null, .null]) (by omega) (by first | (simp (disch := omega) only [eU_ne, eU_eq]; done) | (simp (disch := omega) only [eU_ne, eU_eq]; rfl) | (simp (disch := omega) only [eU_ne, eU_eq]; exact hE) | exact hE | rfl) rfl inT1 tyX1 tyX1_ok nmX1 3 (by decide) q_39 rfl rfl rfl rfl (Nat.le_of_ble_eq_true rfl) dX1_init_27 (fun H locs B => ?_)
  refine lv_aload_n C.1 C.2.1 dX1_init_30 rfl (lv_at hl 0 rfl) ?_
  refine jr_bipush C dX1_init_31 (by decide) ?_
  refine kr_newa C B (n1 := n + 3) (tk := 0) (atype := .int) (cA := G.2.1.1) (N' := 80) (by omega) (by omega) (by omega) k_52 rfl rfl rfl (by decide) (by decide) (Nat.le_of_ble_eq_true rfl) (Nat.le_of_ble_eq_true rfl) (Nat.le_of_ble_eq_true rfl) dX1_init_33 (fun H B => ?_)
  refine kr_putF C B hini (ci := 1) (N := 5) (k := k) (fs := [.int (jI 0), .int (jI (-1000007)), .ref (G.2.2 + n), .ref (G.2.2 + (n + 1)), .null]) (by omega) (by first | (simp (disch := omega) only [eU_ne, eU_eq]; done) | (simp (disch := omega) only [eU_ne, eU_eq]; rfl) | (simp (disch := omega) only [eU_ne, eU_eq]; exact hE) | exact hE | rfl) rfl inT1 tyX1 tyX1_ok nmX1 4 (by decide) q_40 rfl rfl rfl rfl (Nat.le_of_ble_eq_true rfl) dX1_init_35 (fun H locs B => ?_)
  refine kr_vret C B hr hlocks ⟨fun j hj hjk => (by first | (simp (disch := omega) only [eU_ne, eU_eq]; done) | (simp (disch := omega) only [eU_ne, eU_eq]; rfl) | (simp (disch := omega) only [eU_ne, eU_eq]; exact hE) | exact hE | rfl), (by first | (simp (disch := omega) only [eU_ne, eU_eq]; done) | (simp (disch := omega) only [eU_ne, eU_eq]; rfl) | (simp (disch := omega) only [eU_ne, eU_eq]; exact hE) | exact hE | rfl), (by first | (simp (disch := omega) only [eU_ne, eU_eq]; done) | (simp (disch := omega) only [eU_ne, eU_eq]; rfl) | (simp (disch := omega) only [eU_ne, eU_eq]; exact hE) | exact hE | rfl), (by first | (simp (disch := omega) only [eU_ne, eU_eq]; done) | (simp (disch := omega) only [eU_ne, eU_eq]; rfl) | (simp (disch := omega) only [eU_ne, eU_eq]; exact hE) | exact hE | rfl), (by first | (simp (disch := omega) only [eU_ne, eU_eq]; done) | (simp (disch := omega) only [eU_ne, eU_eq]; rfl) | (simp (disch := omega) only [eU_ne, eU_eq]; exact hE) | exact hE | rfl)⟩ dX1_init_38
set_option maxHeartbeats 4000000 in
theorem b_X2 {l : Launch} {G : jG} {n k : Nat} {E : Nat → va_E} (hk : k < n) (hE : E k = .inr (2, [.null, .int 0])) : Met l yX2_init (wsG yX2_init cX2_init 1 none) { frames := 1, cells := 1, slots := 20, locals := 20 } (kPc G n E [.ref (G.2.2 + k)]) (kQ G (n + 1) (fun u : Nat → va_E => (∀ j, j < n → j ≠ k → u j = E j) ∧ u k = .inr (2, [.ref (G.2.2 + n), .int (jI 0)]) ∧ u n = .inl (G.2.1.1, 20, .inl (fun _ => 0)))) 1 20 (gB G) := by
  refine kr_start RX2 rfl (by decide) (Nat.le_of_ble_eq_true rfl) ?_
  intro p e s m args below meth c ls C hA hz hini hr hlocks hl B
  have hini : meth.name = "<init>" := hini
  have hl : lv_has ls 1 [(0, .ref (G.2.2 + k))] := hl
  refine lv_aload_n C.1 C.2.1 dX2_init_0 rfl (lv_at hl 0 rfl) ?_
  refine kr_obj C hl.1 k_133 k_16 k_17 ⟨(Nat.le_of_ble_eq_true rfl), (Nat.le_of_ble_eq_true rfl)⟩ (Nat.le_of_ble_eq_true rfl) dX2_init_1 ?_
  refine lv_aload_n C.1 C.2.1 dX2_init_4 rfl (lv_at hl 0 rfl) ?_
  refine jr_bipush C dX2_init_5 (by decide) ?_
  refine kr_newa C B (n1 := n + 1) (tk := 0) (atype := .int) (cA := G.2.1.1) (N' := 20) (by omega) (by omega) (by omega) k_52 rfl rfl rfl (by decide) (by decide) (Nat.le_of_ble_eq_true rfl) (Nat.le_of_ble_eq_true rfl) (Nat.le_of_ble_eq_true rfl) dX2_init_7 (fun H B => ?_)
  refine kr_putF C B hini (ci := 2) (N := 2) (k := k) (fs := [.null, .int 0]) (by omega) (by first | (simp (disch := omega) only [eU_ne, eU_eq]; done) | (simp (disch := omega) only [eU_ne, eU_eq]; rfl) | (simp (disch := omega) only [eU_ne, eU_eq]; exact hE) | exact hE | rfl) rfl inT2 tyX2 tyX2_ok nmX2 0 (by decide) q_134 rfl rfl rfl rfl (Nat.le_of_ble_eq_true rfl) dX2_init_9 (fun H locs B => ?_)
  refine lv_aload_n C.1 C.2.1 dX2_init_12 rfl (lv_at hl 0 rfl) ?_
  refine jr_iconst C dX2_init_13 ?_
  refine kr_put C B (ci := 2) (N := 2) (k := k) (fs := [.ref (G.2.2 + n), .int 0]) (by omega) (by first | (simp (disch := omega) only [eU_ne, eU_eq]; done) | (simp (disch := omega) only [eU_ne, eU_eq]; rfl) | (simp (disch := omega) only [eU_ne, eU_eq]; exact hE) | exact hE | rfl) rfl inT2 tyX2 tyX2_ok nmX2 1 (by decide) q_135 rfl rfl rfl (Nat.le_of_ble_eq_true rfl) dX2_init_14 (fun H locs B => ?_)
  refine kr_vret C B hr hlocks ⟨fun j hj hjk => (by first | (simp (disch := omega) only [eU_ne, eU_eq]; done) | (simp (disch := omega) only [eU_ne, eU_eq]; rfl) | (simp (disch := omega) only [eU_ne, eU_eq]; exact hE) | exact hE | rfl), (by first | (simp (disch := omega) only [eU_ne, eU_eq]; done) | (simp (disch := omega) only [eU_ne, eU_eq]; rfl) | (simp (disch := omega) only [eU_ne, eU_eq]; exact hE) | exact hE | rfl), (by first | (simp (disch := omega) only [eU_ne, eU_eq]; done) | (simp (disch := omega) only [eU_ne, eU_eq]; rfl) | (simp (disch := omega) only [eU_ne, eU_eq]; exact hE) | exact hE | rfl)⟩ dX2_init_17
set_option maxHeartbeats 4000000 in
theorem b_X0 {l : Launch} {G : jG} {n k : Nat} {E : Nat → va_E} (hk : k < n) (hE : E k = .inr (0, [.null, .null, .null, .int 0, .int 0])) : Met l yX0_init (wsG yX0_init cX0_init 1 none) { frames := 1, cells := 3, slots := 600, locals := 20 } (kPc G n E [.ref (G.2.2 + k)]) (kQ G (n + 3) (fun u : Nat → va_E => (∀ j, j < n → j ≠ k → u j = E j) ∧ u k = .inr (0, [.ref (G.2.2 + n), .ref (G.2.2 + (n + 1)), .ref (G.2.2 + (n + 2)), .int (jI 0), .int (jI 0)]) ∧ u n = .inl (G.2.1.1, 200, .inl (fun _ => 0)) ∧ u (n + 1) = .inl (G.2.1.1, 200, .inl (fun _ => 0)) ∧ u (n + 2) = .inl (G.2.1.1, 200, .inl (fun _ => 0)))) 3 600 (gB G) := by
  refine kr_start RX0 rfl (by decide) (Nat.le_of_ble_eq_true rfl) ?_
  intro p e s m args below meth c ls C hA hz hini hr hlocks hl B
  have hini : meth.name = "<init>" := hini
  have hl : lv_has ls 1 [(0, .ref (G.2.2 + k))] := hl
  refine lv_aload_n C.1 C.2.1 dX0_init_0 rfl (lv_at hl 0 rfl) ?_
  refine kr_obj C hl.1 k_149 k_16 k_17 ⟨(Nat.le_of_ble_eq_true rfl), (Nat.le_of_ble_eq_true rfl)⟩ (Nat.le_of_ble_eq_true rfl) dX0_init_1 ?_
  refine lv_aload_n C.1 C.2.1 dX0_init_4 rfl (lv_at hl 0 rfl) ?_
  refine jr_sipush C dX0_init_5 (by decide) ?_
  refine kr_newa C B (n1 := n + 1) (tk := 0) (atype := .int) (cA := G.2.1.1) (N' := 200) (by omega) (by omega) (by omega) k_52 rfl rfl rfl (by decide) (by decide) (Nat.le_of_ble_eq_true rfl) (Nat.le_of_ble_eq_true rfl) (Nat.le_of_ble_eq_true rfl) dX0_init_8 (fun H B => ?_)
  refine kr_putF C B hini (ci := 0) (N := 5) (k := k) (fs := [.null, .null, .null, .int 0, .int 0]) (by omega) (by first | (simp (disch := omega) only [eU_ne, eU_eq]; done) | (simp (disch := omega) only [eU_ne, eU_eq]; rfl) | (simp (disch := omega) only [eU_ne, eU_eq]; exact hE) | exact hE | rfl) rfl inT0 tyX0 tyX0_ok nmX0 0 (by decide) q_150 rfl rfl rfl rfl (Nat.le_of_ble_eq_true rfl) dX0_init_10 (fun H locs B => ?_)
  refine lv_aload_n C.1 C.2.1 dX0_init_13 rfl (lv_at hl 0 rfl) ?_
  refine jr_sipush C dX0_init_14 (by decide) ?_
  refine kr_newa C B (n1 := n + 2) (tk := 0) (atype := .int) (cA := G.2.1.1) (N' := 200) (by omega) (by omega) (by omega) k_52 rfl rfl rfl (by decide) (by decide) (Nat.le_of_ble_eq_true rfl) (Nat.le_of_ble_eq_true rfl) (Nat.le_of_ble_eq_true rfl) dX0_init_17 (fun H B => ?_)
  refine kr_putF C B hini (ci := 0) (N := 5) (k := k) (fs := [.ref (G.2.2 + n), .null, .null, .int 0, .int 0]) (by omega) (by first | (simp (disch := omega) only [eU_ne, eU_eq]; done) | (simp (disch := omega) only [eU_ne, eU_eq]; rfl) | (simp (disch := omega) only [eU_ne, eU_eq]; exact hE) | exact hE | rfl) rfl inT0 tyX0 tyX0_ok nmX0 1 (by decide) q_152 rfl rfl rfl rfl (Nat.le_of_ble_eq_true rfl) dX0_init_19 (fun H locs B => ?_)
  refine lv_aload_n C.1 C.2.1 dX0_init_22 rfl (lv_at hl 0 rfl) ?_
  refine jr_sipush C dX0_init_23 (by decide) ?_
  refine kr_newa C B (n1 := n + 3) (tk := 0) (atype := .int) (cA := G.2.1.1) (N' := 200) (by omega) (by omega) (by omega) k_52 rfl rfl rfl (by decide) (by decide) (Nat.le_of_ble_eq_true rfl) (Nat.le_of_ble_eq_true rfl) (Nat.le_of_ble_eq_true rfl) dX0_init_26 (fun H B => ?_)
  refine kr_putF C B hini (ci := 0) (N := 5) (k := k) (fs := [.ref (G.2.2 + n), .ref (G.2.2 + (n + 1)), .null, .int 0, .int 0]) (by omega) (by first | (simp (disch := omega) only [eU_ne, eU_eq]; done) | (simp (disch := omega) only [eU_ne, eU_eq]; rfl) | (simp (disch := omega) only [eU_ne, eU_eq]; exact hE) | exact hE | rfl) rfl inT0 tyX0 tyX0_ok nmX0 2 (by decide) q_154 rfl rfl rfl rfl (Nat.le_of_ble_eq_true rfl) dX0_init_28 (fun H locs B => ?_)
  refine lv_aload_n C.1 C.2.1 dX0_init_31 rfl (lv_at hl 0 rfl) ?_
  refine jr_iconst C dX0_init_32 ?_
  refine kr_put C B (ci := 0) (N := 5) (k := k) (fs := [.ref (G.2.2 + n), .ref (G.2.2 + (n + 1)), .ref (G.2.2 + (n + 2)), .int 0, .int 0]) (by omega) (by first | (simp (disch := omega) only [eU_ne, eU_eq]; done) | (simp (disch := omega) only [eU_ne, eU_eq]; rfl) | (simp (disch := omega) only [eU_ne, eU_eq]; exact hE) | exact hE | rfl) rfl inT0 tyX0 tyX0_ok nmX0 3 (by decide) q_156 rfl rfl rfl (Nat.le_of_ble_eq_true rfl) dX0_init_33 (fun H locs B => ?_)
  refine lv_aload_n C.1 C.2.1 dX0_init_36 rfl (lv_at hl 0 rfl) ?_
  refine jr_iconst C dX0_init_37 ?_
  refine kr_put C B (ci := 0) (N := 5) (k := k) (fs := [.ref (G.2.2 + n), .ref (G.2.2 + (n + 1)), .ref (G.2.2 + (n + 2)), .int (jI 0), .int 0]) (by omega) (by first | (simp (disch := omega) only [eU_ne, eU_eq]; done) | (simp (disch := omega) only [eU_ne, eU_eq]; rfl) | (simp (disch := omega) only [eU_ne, eU_eq]; exact hE) | exact hE | rfl) rfl inT0 tyX0 tyX0_ok nmX0 4 (by decide) q_158 rfl (by decide) (by decide) (Nat.le_of_ble_eq_true rfl) dX0_init_38 (fun H locs B => ?_)
  refine kr_vret C B hr hlocks ⟨fun j hj hjk => (by first | (simp (disch := omega) only [eU_ne, eU_eq]; done) | (simp (disch := omega) only [eU_ne, eU_eq]; rfl) | (simp (disch := omega) only [eU_ne, eU_eq]; exact hE) | exact hE | rfl), (by first | (simp (disch := omega) only [eU_ne, eU_eq]; done) | (simp (disch := omega) only [eU_ne, eU_eq]; rfl) | (simp (disch := omega) only [eU_ne, eU_eq]; exact hE) | exact hE | rfl), (by first | (simp (disch := omega) only [eU_ne, eU_eq]; done) | (simp (disch := omega) only [eU_ne, eU_eq]; rfl) | (simp (disch := omega) only [eU_ne, eU_eq]; exact hE) | exact hE | rfl), (by first | (simp (disch := omega) only [eU_ne, eU_eq]; done) | (simp (disch := omega) only [eU_ne, eU_eq]; rfl) | (simp (disch := omega) only [eU_ne, eU_eq]; exact hE) | exact hE | rfl), (by first | (simp (disch := omega) only [eU_ne, eU_eq]; done) | (simp (disch := omega) only [eU_ne, eU_eq]; rfl) | (simp (disch := omega) only [eU_ne, eU_eq]; exact hE) | exact hE | rfl)⟩ dX0_init_41
set_option maxHeartbeats 4000000 in
theorem b_X3 {l : Launch} {G : jG} {n k L : Nat} {E : Nat → va_E} (hk : k < n) (hL : L ≤ 1000) (hE : E k = .inr (3, [.null, .int 0])) : Met l yX3_init (wsG yX3_init cX3_init 2 none) { frames := 1, cells := 1, slots := L, locals := 20 } (kPc G n E [.ref (G.2.2 + k), .int (jI L)]) (kQ G (n + 1) (fun u : Nat → va_E => (∀ j, j < n → j ≠ k → u j = E j) ∧ u k = .inr (3, [.ref (G.2.2 + n), .int (jI 0)]) ∧ u n = .inl (G.2.1.2.2.1, L, .inl (fun _ => 0)))) 1 L (gB G) := by
  refine kr_start RX3 rfl (by decide) (Nat.le_of_ble_eq_true rfl) ?_
  intro p e s m args below meth c ls C hA hz hini hr hlocks hl B
  have hini : meth.name = "<init>" := hini
  have hl : lv_has ls 2 [(0, .ref (G.2.2 + k)), (1, .int (jI L))] := hl
  refine lv_aload_n C.1 C.2.1 dX3_init_0 rfl (lv_at hl 0 rfl) ?_
  refine kr_obj C hl.1 k_92 k_16 k_17 ⟨(Nat.le_of_ble_eq_true rfl), (Nat.le_of_ble_eq_true rfl)⟩ (Nat.le_of_ble_eq_true rfl) dX3_init_1 ?_
  refine lv_aload_n C.1 C.2.1 dX3_init_4 rfl (lv_at hl 0 rfl) ?_
  refine lv_iload_n C.1 C.2.1 dX3_init_5 rfl (lv_at hl 1 rfl) ?_
  refine jr_if_ge (tgt := 13) (P := False) (P2 := True) C (by omega : jR (L : Int)) (by rw [if_neg (by omega)]; trivial) dX3_init_6 (by decide) (fun _ h => h.elim) (fun _ _ => ?_)
  refine lv_iload_n C.1 C.2.1 dX3_init_13 rfl (lv_at hl 1 rfl) ?_
  have hcl : (jI (L : Int)).toNatClampNeg = L := by rw [jI_cl (by omega)]; omega
  have hng : ¬ jI (L : Int) < 0 := fun z => by have := (jI_lt (b := 0) (by omega : jR (L : Int)) (by decide)).mp z; omega
  refine kr_newa C B (n1 := n + 1) (tk := 2) (atype := .char) (cA := G.2.1.2.2.1) (N' := L) (by omega) (by omega) (by omega) k_102 rfl rfl rfl hng hcl (by show L * 2 ≤ 536870912; omega) (by show 0 + 1 ≤ 1; omega) (by show 0 + L ≤ L; omega) dX3_init_14 (fun H B => ?_)
  refine kr_putF C B hini (ci := 3) (N := 2) (k := k) (fs := [.null, .int 0]) (by omega) (by first | (simp (disch := omega) only [eU_ne, eU_eq]; done) | (simp (disch := omega) only [eU_ne, eU_eq]; rfl) | (simp (disch := omega) only [eU_ne, eU_eq]; exact hE) | exact hE | rfl) rfl inT3 tyX3 tyX3_ok nmX3 0 (by decide) q_93 rfl rfl rfl rfl (Nat.le_of_ble_eq_true rfl) dX3_init_16 (fun H locs B => ?_)
  refine lv_aload_n C.1 C.2.1 dX3_init_19 rfl (lv_at hl 0 rfl) ?_
  refine jr_iconst C dX3_init_20 ?_
  refine kr_put C B (ci := 3) (N := 2) (k := k) (fs := [.ref (G.2.2 + n), .int 0]) (by omega) (by first | (simp (disch := omega) only [eU_ne, eU_eq]; done) | (simp (disch := omega) only [eU_ne, eU_eq]; rfl) | (simp (disch := omega) only [eU_ne, eU_eq]; exact hE) | exact hE | rfl) rfl inT3 tyX3 tyX3_ok nmX3 1 (by decide) q_94 rfl rfl rfl (Nat.le_of_ble_eq_true rfl) dX3_init_21 (fun H locs B => ?_)
  have e0 : 0 + L = L := Nat.zero_add L
  rw [e0]
  exact kr_vret C B hr hlocks ⟨fun j hj hjk => (by first | (simp (disch := omega) only [eU_ne, eU_eq]; done) | (simp (disch := omega) only [eU_ne, eU_eq]; rfl) | (simp (disch := omega) only [eU_ne, eU_eq]; exact hE) | exact hE | rfl), (by first | (simp (disch := omega) only [eU_ne, eU_eq]; done) | (simp (disch := omega) only [eU_ne, eU_eq]; rfl) | (simp (disch := omega) only [eU_ne, eU_eq]; exact hE) | exact hE | rfl), (by first | (simp (disch := omega) only [eU_ne, eU_eq]; done) | (simp (disch := omega) only [eU_ne, eU_eq]; rfl) | (simp (disch := omega) only [eU_ne, eU_eq]; exact hE) | exact hE | rfl)⟩ dX3_init_24
set_option maxHeartbeats 4000000 in
theorem b_X5 {l : Launch} {G : jG} {n k : Nat} {E : Nat → va_E} (hk : k < n) (hE : E k = .inr (5, [.null, .int 0, .int 0, .int 0, .int 0])) : Met l yX5_init (wsG yX5_init cX5_init 1 none) { frames := 2, cells := 4, slots := 109, locals := 60 } (kPc G n E [.ref (G.2.2 + k)]) (kQ G (n + 4) (fun u : Nat → va_E => (∀ j, j < n → j ≠ k → u j = E j) ∧ u k = .inr (5, [.ref (G.2.2 + n), .int (jI 0), .int (jI 0), .int (jI 0), .int (jI 0)]) ∧ u n = .inr (1, [.int (jI 0), .int (jI (-1000007)), .ref (G.2.2 + (n + 1)), .ref (G.2.2 + (n + 2)), .ref (G.2.2 + (n + 3))]) ∧ u (n + 1) = .inl (G.2.1.1, 4, .inl (fun _ => 0)) ∧ u (n + 2) = .inl (G.2.1.1, 20, .inl (fun _ => 0)) ∧ u (n + 3) = .inl (G.2.1.1, 80, .inl (fun _ => 0)))) 4 109 (gB G) := by
  refine kr_start RX5 rfl (by decide) (Nat.le_of_ble_eq_true rfl) ?_
  intro p e s m args below meth c ls C hA hz hini hr hlocks hl B
  have hini : meth.name = "<init>" := hini
  have hl : lv_has ls 1 [(0, .ref (G.2.2 + k))] := hl
  refine lv_aload_n C.1 C.2.1 dX5_init_0 rfl (lv_at hl 0 rfl) ?_
  refine kr_obj C hl.1 k_108 k_16 k_17 ⟨(Nat.le_of_ble_eq_true rfl), (Nat.le_of_ble_eq_true rfl)⟩ (Nat.le_of_ble_eq_true rfl) dX5_init_1 ?_
  refine lv_aload_n C.1 C.2.1 dX5_init_4 rfl (lv_at hl 0 rfl) ?_
  refine kr_new C B (n1 := n + 1) (ci := 1) (fs := [.int 0, .int 0, .null, .null, .null]) (by omega) (by omega) (by omega) k_109 k_26 q_3 inT1 tyX1 tyX1_ok rfl (fun j hj => by rcases (show j = 0 ∨ j = 1 ∨ j = 2 ∨ j = 3 ∨ j = 4 by omega) with rfl | rfl | rfl | rfl | rfl <;> rfl) (Nat.le_of_ble_eq_true rfl) (Nat.le_of_ble_eq_true rfl) dX5_init_5 (fun H B => ?_)
  refine lv_dup C.1 C.2.1 dX5_init_8 rfl ?_
  refine kr_call C hA hl.1 B (by omega) (by omega) (b_X1 (k := n) (by omega) (by first | (simp (disch := omega) only [eU_ne, eU_eq]; done) | (simp (disch := omega) only [eU_ne, eU_eq]; rfl) | (simp (disch := omega) only [eU_ne, eU_eq]; exact hE) | exact hE | rfl)) k_110 rfl k_28 k_29 q_3 ⟨by decide, by decide, by decide +kernel⟩ rfl ⟨rfl, rfl⟩ ⟨(Nat.le_of_ble_eq_true rfl), (Nat.le_of_ble_eq_true rfl)⟩ ⟨(Nat.le_of_ble_eq_true rfl), (Nat.le_of_ble_eq_true rfl)⟩ rfl (Nat.le_of_ble_eq_true rfl) dX5_init_9 (fun u H locs hu B => ?_)
  obtain ⟨u1, u2, u3, u4, u5⟩ := hu
  have uk : u k = .inr (5, [.null, .int 0, .int 0, .int 0, .int 0]) := by rw [u1 k (by omega) (by omega)]; first | (simp (disch := omega) only [eU_ne, eU_eq]; done) | (simp (disch := omega) only [eU_ne, eU_eq]; rfl) | (simp (disch := omega) only [eU_ne, eU_eq]; exact hE) | exact hE | rfl
  refine kr_putF C B hini (ci := 5) (N := 5) (k := k) (fs := [.null, .int 0, .int 0, .int 0, .int 0]) (by omega) (by first | (simp (disch := omega) only [eU_ne, eU_eq, uk]; done) | (simp (disch := omega) only [eU_ne, eU_eq, uk]; rfl) | (simp (disch := omega) only [eU_ne, eU_eq, uk]; exact hE) | exact hE | exact uk | rfl) rfl inT5 tyX5 tyX5_ok nmX5 0 (by decide) q_111 rfl rfl rfl rfl (Nat.le_of_ble_eq_true rfl) dX5_init_12 (fun H locs B => ?_)
  refine lv_aload_n C.1 C.2.1 dX5_init_15 rfl (lv_at hl 0 rfl) ?_
  refine jr_iconst C dX5_init_16 ?_
  refine kr_put C B (ci := 5) (N := 5) (k := k) (fs := [.ref (G.2.2 + n), .int 0, .int 0, .int 0, .int 0]) (by omega) (by first | (simp (disch := omega) only [eU_ne, eU_eq, uk]; done) | (simp (disch := omega) only [eU_ne, eU_eq, uk]; rfl) | (simp (disch := omega) only [eU_ne, eU_eq, uk]; exact hE) | exact hE | exact uk | rfl) rfl inT5 tyX5 tyX5_ok nmX5 1 (by decide) q_113 rfl rfl rfl (Nat.le_of_ble_eq_true rfl) dX5_init_17 (fun H locs B => ?_)
  refine lv_aload_n C.1 C.2.1 dX5_init_20 rfl (lv_at hl 0 rfl) ?_
  refine jr_iconst C dX5_init_21 ?_
  refine kr_put C B (ci := 5) (N := 5) (k := k) (fs := [.ref (G.2.2 + n), .int (jI 0), .int 0, .int 0, .int 0]) (by omega) (by first | (simp (disch := omega) only [eU_ne, eU_eq, uk]; done) | (simp (disch := omega) only [eU_ne, eU_eq, uk]; rfl) | (simp (disch := omega) only [eU_ne, eU_eq, uk]; exact hE) | exact hE | exact uk | rfl) rfl inT5 tyX5 tyX5_ok nmX5 2 (by decide) q_114 rfl rfl rfl (Nat.le_of_ble_eq_true rfl) dX5_init_22 (fun H locs B => ?_)
  refine lv_aload_n C.1 C.2.1 dX5_init_25 rfl (lv_at hl 0 rfl) ?_
  refine jr_iconst C dX5_init_26 ?_
  refine kr_put C B (ci := 5) (N := 5) (k := k) (fs := [.ref (G.2.2 + n), .int (jI 0), .int (jI 0), .int 0, .int 0]) (by omega) (by first | (simp (disch := omega) only [eU_ne, eU_eq, uk]; done) | (simp (disch := omega) only [eU_ne, eU_eq, uk]; rfl) | (simp (disch := omega) only [eU_ne, eU_eq, uk]; exact hE) | exact hE | exact uk | rfl) rfl inT5 tyX5 tyX5_ok nmX5 3 (by decide) q_115 rfl rfl rfl (Nat.le_of_ble_eq_true rfl) dX5_init_27 (fun H locs B => ?_)
  refine lv_aload_n C.1 C.2.1 dX5_init_30 rfl (lv_at hl 0 rfl) ?_
  refine jr_iconst C dX5_init_31 ?_
  refine kr_put C B (ci := 5) (N := 5) (k := k) (fs := [.ref (G.2.2 + n), .int (jI 0), .int (jI 0), .int (jI 0), .int 0]) (by omega) (by first | (simp (disch := omega) only [eU_ne, eU_eq, uk]; done) | (simp (disch := omega) only [eU_ne, eU_eq, uk]; rfl) | (simp (disch := omega) only [eU_ne, eU_eq, uk]; exact hE) | exact hE | exact uk | rfl) rfl inT5 tyX5 tyX5_ok nmX5 4 (by decide) q_116 rfl (by decide) (by decide) (Nat.le_of_ble_eq_true rfl) dX5_init_32 (fun H locs B => ?_)
  have v0 : ∀ j, j < n → j ≠ k → u j = E j := fun j hj hjk => by rw [u1 j (by omega) (by omega), eU_ne (by omega)]
  exact kr_vret C B hr hlocks ⟨fun j hj hjk => by simp (disch := omega) only [eU_ne, eU_eq]; exact v0 j hj hjk, (by first | (simp (disch := omega) only [eU_ne, eU_eq]; done) | (simp (disch := omega) only [eU_ne, eU_eq]; rfl) | (simp (disch := omega) only [eU_ne, eU_eq]; exact hE) | exact hE | rfl), by simp (disch := omega) only [eU_ne, eU_eq]; exact u2, by simp (disch := omega) only [eU_ne, eU_eq]; exact u3, by simp (disch := omega) only [eU_ne, eU_eq]; exact u4, by simp (disch := omega) only [eU_ne, eU_eq]; exact u5⟩ dX5_init_35
