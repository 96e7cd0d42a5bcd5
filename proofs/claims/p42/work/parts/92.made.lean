/-! MultiValueFile(), MultiValueFileModel() -/
def refsR (f : Nat → Option Nat) : vp_A → vp_A := fun a => (a.1, .inr (.inr (.inr (.inr f))))
def gE (G : jG) (j : Nat) (e : va_E) : Prop := if j = 2 ∨ j = 50 ∨ j = 97 ∨ j = 144 ∨ j = 191 then e = .inl (G.2.1.2.2.2.1, 10, .inr (.inr (.inr (.inr (fun t => if t < 10 then some (G.2.2 + (j + 1 + 4 * t)) else none))))) else e = jE G mM (j : Int)
theorem gE_eq {G : jG} {j : Nat} {e : va_E} (h : ¬ (j = 2 ∨ j = 50 ∨ j = 97 ∨ j = 144 ∨ j = 191)) (he : e = jE G mM (j : Int)) : gE G j e := by
  unfold gE
  rw [if_neg h]
  exact he
theorem gE_state {G : jG} {b : Nat} {u : Nat → va_E} (hb : ∀ j, b ≤ j → j < b + 47 → ((j = 2 ∨ j = 50 ∨ j = 97 ∨ j = 144 ∨ j = 191) ↔ j = b + 1)) (h1 : ∀ j : Nat, b ≤ j → j < b + 47 → j ≠ b + 1 → u j = jE G mM (j : Int)) (h2 : u (b + 1) = .inl (G.2.1.2.2.2.1, 10, .inr (.inr (.inr (.inr (fun j => if j < 10 then some (G.2.2 + (b + 2 + 4 * j)) else none)))))) : ∀ j, b ≤ j → j < b + 47 → gE G j (u j) := by
  intro j j0 j1
  by_cases z : j = b + 1
  · unfold gE
    rw [if_pos ((hb j j0 j1).mpr z), z, h2]
  · exact gE_eq (fun q => z ((hb j j0 j1).mp q)) (h1 j j0 j1 z)
theorem hb_1 : ∀ d : Int, 0 ≤ d → d < 47 → jK (((1 : Nat) : Int) + d) = jKs d ∧ ∀ i, mM (((1 : Nat) : Int) + d) i = mS (1 : Nat) d i := by
  intro d h0 h1
  refine ⟨?_, fun i => ?_⟩
  · unfold jK
    rw [if_neg (by omega), if_neg (by omega), if_pos (by omega), show ((1 : Nat) : Int) + d - 1 = d by omega]
  · unfold mM
    rw [if_pos (by omega), show ((1 : Nat) : Int) + d - 1 = d by omega]
    rfl
theorem hb_q (q : Nat) (hq : q < 4) : ∀ d : Int, 0 ≤ d → d < 47 → jK (((49 + 47 * q : Nat) : Int) + d) = jKs d ∧ ∀ i, mM (((49 + 47 * q : Nat) : Int) + d) i = mS (49 + 47 * q : Nat) d i := by
  intro d h0 h1
  have e : (((49 + 47 * q : Nat) : Int) + d - 49) % 47 = d := by omega
  refine ⟨?_, fun i => ?_⟩
  · unfold jK
    rw [if_neg (by omega), if_neg (by omega), if_neg (by omega), if_neg (by omega), if_pos (by omega), e]
  · unfold mM
    rw [if_neg (by omega), if_neg (by omega), if_pos (by omega), e, show ((49 + 47 * q : Nat) : Int) + d - d = ((49 + 47 * q : Nat) : Int) by omega]
theorem k_15 : (Cond.methodLink "MultiValueFile" (3 : Nat) ({ cls := "java/lang/Object", name := "<init>", desc := "()V" } : MethodName)) ∈ tb := tb_mem (List.mem_of_getElem? (i := 15) (by decide +kernel)) (by decide +kernel)
theorem k_18 : (Cond.classLink "MultiValueFile" (9 : Nat) "MultiValueFile$State") ∈ tb := tb_mem (List.mem_of_getElem? (i := 18) (by decide +kernel)) (by decide +kernel)
theorem k_19 : (Cond.instantiable "MultiValueFile$State" (7 : Nat)) ∈ tb := tb_mem (List.mem_of_getElem? (i := 19) (by decide +kernel)) (by decide +kernel)
theorem k_20 : (Cond.methodLink "MultiValueFile" (11 : Nat) ({ cls := "MultiValueFile$State", name := "<init>", desc := "()V" } : MethodName)) ∈ tb := tb_mem (List.mem_of_getElem? (i := 20) (by decide +kernel)) (by decide +kernel)
theorem k_21 : (Cond.instanceMethod ({ cls := "MultiValueFile$State", name := "<init>", desc := "()V" } : MethodName)) ∈ tb := tb_mem (List.mem_of_getElem? (i := 21) (by decide +kernel)) (by decide +kernel)
theorem k_22 : (Cond.code ({ cls := "MultiValueFile$State", name := "<init>", desc := "()V" } : MethodName) prog_6_method_1_code (2 : Nat) (Option.none : Option ClassFile.FieldType)) ∈ tb := tb_mem (List.mem_of_getElem? (i := 22) (by decide +kernel)) (by decide +kernel)
theorem k_87 : (Cond.classLink "MultiValueFile" (24 : Nat) "MultiValueFile$Signs") ∈ tb := tb_mem (List.mem_of_getElem? (i := 87) (by decide +kernel)) (by decide +kernel)
theorem k_88 : (Cond.instantiable "MultiValueFile$Signs" (2 : Nat)) ∈ tb := tb_mem (List.mem_of_getElem? (i := 88) (by decide +kernel)) (by decide +kernel)
theorem k_89 : (Cond.methodLink "MultiValueFile" (26 : Nat) ({ cls := "MultiValueFile$Signs", name := "<init>", desc := "(I)V" } : MethodName)) ∈ tb := tb_mem (List.mem_of_getElem? (i := 89) (by decide +kernel)) (by decide +kernel)
theorem k_90 : (Cond.instanceMethod ({ cls := "MultiValueFile$Signs", name := "<init>", desc := "(I)V" } : MethodName)) ∈ tb := tb_mem (List.mem_of_getElem? (i := 90) (by decide +kernel)) (by decide +kernel)
theorem k_91 : (Cond.code ({ cls := "MultiValueFile$Signs", name := "<init>", desc := "(I)V" } : MethodName) prog_5_method_1_code (2 : Nat) (Option.none : Option ClassFile.FieldType)) ∈ tb := tb_mem (List.mem_of_getElem? (i := 91) (by decide +kernel)) (by decide +kernel)
theorem k_103 : (Cond.classLink "MultiValueFile" (36 : Nat) "MultiValueFile$TextReader") ∈ tb := tb_mem (List.mem_of_getElem? (i := 103) (by decide +kernel)) (by decide +kernel)
theorem k_104 : (Cond.instantiable "MultiValueFile$TextReader" (5 : Nat)) ∈ tb := tb_mem (List.mem_of_getElem? (i := 104) (by decide +kernel)) (by decide +kernel)
theorem k_105 : (Cond.methodLink "MultiValueFile" (38 : Nat) ({ cls := "MultiValueFile$TextReader", name := "<init>", desc := "()V" } : MethodName)) ∈ tb := tb_mem (List.mem_of_getElem? (i := 105) (by decide +kernel)) (by decide +kernel)
theorem k_106 : (Cond.instanceMethod ({ cls := "MultiValueFile$TextReader", name := "<init>", desc := "()V" } : MethodName)) ∈ tb := tb_mem (List.mem_of_getElem? (i := 106) (by decide +kernel)) (by decide +kernel)
theorem k_107 : (Cond.code ({ cls := "MultiValueFile$TextReader", name := "<init>", desc := "()V" } : MethodName) prog_7_method_1_code (1 : Nat) (Option.none : Option ClassFile.FieldType)) ∈ tb := tb_mem (List.mem_of_getElem? (i := 107) (by decide +kernel)) (by decide +kernel)
theorem k_128 : (Cond.classLink "MultiValueFile" (43 : Nat) "MultiValueFile$Sequence") ∈ tb := tb_mem (List.mem_of_getElem? (i := 128) (by decide +kernel)) (by decide +kernel)
theorem k_129 : (Cond.instantiable "MultiValueFile$Sequence" (2 : Nat)) ∈ tb := tb_mem (List.mem_of_getElem? (i := 129) (by decide +kernel)) (by decide +kernel)
theorem k_130 : (Cond.methodLink "MultiValueFile" (45 : Nat) ({ cls := "MultiValueFile$Sequence", name := "<init>", desc := "()V" } : MethodName)) ∈ tb := tb_mem (List.mem_of_getElem? (i := 130) (by decide +kernel)) (by decide +kernel)
theorem k_131 : (Cond.instanceMethod ({ cls := "MultiValueFile$Sequence", name := "<init>", desc := "()V" } : MethodName)) ∈ tb := tb_mem (List.mem_of_getElem? (i := 131) (by decide +kernel)) (by decide +kernel)
theorem k_132 : (Cond.code ({ cls := "MultiValueFile$Sequence", name := "<init>", desc := "()V" } : MethodName) prog_4_method_1_code (1 : Nat) (Option.none : Option ClassFile.FieldType)) ∈ tb := tb_mem (List.mem_of_getElem? (i := 132) (by decide +kernel)) (by decide +kernel)
theorem k_144 : (Cond.classLink "MultiValueFile" (50 : Nat) "MultiValueFile$ExplodedList") ∈ tb := tb_mem (List.mem_of_getElem? (i := 144) (by decide +kernel)) (by decide +kernel)
theorem k_145 : (Cond.instantiable "MultiValueFile$ExplodedList" (5 : Nat)) ∈ tb := tb_mem (List.mem_of_getElem? (i := 145) (by decide +kernel)) (by decide +kernel)
theorem k_146 : (Cond.methodLink "MultiValueFile" (52 : Nat) ({ cls := "MultiValueFile$ExplodedList", name := "<init>", desc := "()V" } : MethodName)) ∈ tb := tb_mem (List.mem_of_getElem? (i := 146) (by decide +kernel)) (by decide +kernel)
theorem k_147 : (Cond.instanceMethod ({ cls := "MultiValueFile$ExplodedList", name := "<init>", desc := "()V" } : MethodName)) ∈ tb := tb_mem (List.mem_of_getElem? (i := 147) (by decide +kernel)) (by decide +kernel)
theorem k_148 : (Cond.code ({ cls := "MultiValueFile$ExplodedList", name := "<init>", desc := "()V" } : MethodName) prog_2_method_1_code (1 : Nat) (Option.none : Option ClassFile.FieldType)) ∈ tb := tb_mem (List.mem_of_getElem? (i := 148) (by decide +kernel)) (by decide +kernel)
theorem cell_237 {G : jG} : jE G mM ((237 : Nat) : Int) = .inr (3, [.ref (G.2.2 + 238), .int (jI 0)]) := by
  rw [jE4 (by decide)]
  rfl
theorem cell_238 {G : jG} : jE G mM ((238 : Nat) : Int) = .inl (G.2.1.2.2.1, 90, .inl (fun _ => 0)) := by
  rw [jEc (n := 90) (by decide) (by decide)]
  rfl
theorem cell_239 {G : jG} : jE G mM ((239 : Nat) : Int) = .inr (3, [.ref (G.2.2 + 240), .int (jI 0)]) := by
  rw [jE4 (by decide)]
  rfl
theorem cell_240 {G : jG} : jE G mM ((240 : Nat) : Int) = .inl (G.2.1.2.2.1, 400, .inl (fun _ => 0)) := by
  rw [jEc (n := 400) (by decide) (by decide)]
  rfl
theorem cell_241 {G : jG} : jE G mM ((241 : Nat) : Int) = .inr (5, [.ref (G.2.2 + 242), .int (jI 0), .int (jI 0), .int (jI 0), .int (jI 0)]) := by
  rw [jE6 (by decide)]
  rfl
theorem cell_242 {G : jG} : jE G mM ((242 : Nat) : Int) = .inr (1, [.int (jI 0), .int (jI (-1000007)), .ref (G.2.2 + 243), .ref (G.2.2 + 244), .ref (G.2.2 + 245)]) := by
  rw [jE2 (by decide)]
  rfl
theorem cell_243 {G : jG} : jE G mM ((243 : Nat) : Int) = .inl (G.2.1.1, 4, .inl (fun _ => 0)) := by
  rw [jEi (n := 4) (by decide) (by decide)]
  rfl
theorem cell_244 {G : jG} : jE G mM ((244 : Nat) : Int) = .inl (G.2.1.1, 20, .inl (fun _ => 0)) := by
  rw [jEi (n := 20) (by decide) (by decide)]
  rfl
theorem cell_245 {G : jG} : jE G mM ((245 : Nat) : Int) = .inl (G.2.1.1, 80, .inl (fun _ => 0)) := by
  rw [jEi (n := 80) (by decide) (by decide)]
  rfl
theorem cell_246 {G : jG} : jE G mM ((246 : Nat) : Int) = .inr (2, [.ref (G.2.2 + 247), .int (jI 0)]) := by
  rw [jE3 (by decide)]
  rfl
theorem cell_247 {G : jG} : jE G mM ((247 : Nat) : Int) = .inl (G.2.1.1, 20, .inl (fun _ => 0)) := by
  rw [jEi (n := 20) (by decide) (by decide)]
  rfl
theorem cell_248 {G : jG} : jE G mM ((248 : Nat) : Int) = .inr (0, [.ref (G.2.2 + 249), .ref (G.2.2 + 250), .ref (G.2.2 + 251), .int (jI 0), .int (jI 0)]) := by
  rw [jE1 (by decide)]
  rfl
theorem cell_249 {G : jG} : jE G mM ((249 : Nat) : Int) = .inl (G.2.1.1, 200, .inl (fun _ => 0)) := by
  rw [jEi (n := 200) (by decide) (by decide)]
  rfl
theorem cell_250 {G : jG} : jE G mM ((250 : Nat) : Int) = .inl (G.2.1.1, 200, .inl (fun _ => 0)) := by
  rw [jEi (n := 200) (by decide) (by decide)]
  rfl
theorem cell_251 {G : jG} : jE G mM ((251 : Nat) : Int) = .inl (G.2.1.1, 200, .inl (fun _ => 0)) := by
  rw [jEi (n := 200) (by decide) (by decide)]
  rfl
theorem cell_0 {G : jG} : jE G mM ((0 : Nat) : Int) = .inr (6, [.ref (G.2.2 + 1), .ref (G.2.2 + 48), .int (jI 0), .ref (G.2.2 + 237), .ref (G.2.2 + 239), .ref (G.2.2 + 241), .ref (G.2.2 + 246), .ref (G.2.2 + 248)]) := by
  rw [jE7 (by decide)]
  rfl
set_option maxHeartbeats 8000000 in
theorem b_X6 {l : Launch} {G : jG} {E : Nat → va_E} (hE : E 0 = .inr (6, [.null, .null, .int 0, .null, .null, .null, .null, .null])) : Met l yX6_init (wsG yX6_init cX6_init 2 none) { frames := 3, cells := 251, slots := 10884, locals := 100 } (kPc G 1 E [.ref (G.2.2 + 0)]) (kQ G 252 (fun u : Nat → va_E => u 0 = jE G mM (0 : Int) ∧ (∀ j, 1 ≤ j → j < 252 → j ≠ 48 → gE G j (u j)) ∧ u 48 = .inl (G.2.1.2.2.2.2, 4, .inr (.inr (.inr (.inr (va_up (va_up (va_up (va_up (fun _ => none) (jI 0).toNatClampNeg (some (G.2.2 + 49))) (jI 1).toNatClampNeg (some (G.2.2 + 96))) (jI 2).toNatClampNeg (some (G.2.2 + 143))) (jI 3).toNatClampNeg (some (G.2.2 + 190))))))))) 251 10884 (gB G) := by
  refine kr_start RX6 rfl (by decide) (Nat.le_of_ble_eq_true rfl) ?_
  intro p e s m args below meth c ls C hA hz hini hr hlocks hl B
  have hini : meth.name = "<init>" := hini
  have hl : lv_has ls 2 [(0, .ref (G.2.2 + 0))] := hl
  refine lv_aload_n C.1 C.2.1 dX6_init_0 rfl (lv_at hl 0 rfl) ?_
  refine kr_obj C hl.1 k_15 k_16 k_17 ⟨(Nat.le_of_ble_eq_true rfl), (Nat.le_of_ble_eq_true rfl)⟩ (Nat.le_of_ble_eq_true rfl) dX6_init_1 ?_
  refine lv_aload_n C.1 C.2.1 dX6_init_4 rfl (lv_at hl 0 rfl) ?_
  refine kr_new C B (n1 := 2) (ci := 4) (fs := [.null, .int 0, .null, .null, .null, .null, .null]) (by omega) (by omega) (by omega) k_18 k_19 q_2 inT4 tyX4 tyX4_ok rfl (fun j hj => by rcases (show j = 0 ∨ j = 1 ∨ j = 2 ∨ j = 3 ∨ j = 4 ∨ j = 5 ∨ j = 6 by omega) with rfl | rfl | rfl | rfl | rfl | rfl | rfl <;> rfl) (Nat.le_of_ble_eq_true rfl) (Nat.le_of_ble_eq_true rfl) dX6_init_5 (fun H B => ?_)
  refine lv_dup C.1 C.2.1 dX6_init_8 rfl ?_
  refine kr_call C hA hl.1 B (by omega) (by omega) (b_X4 (b := 1) hb_1 (by first | exact eU_eq | (simp (disch := omega) only [eU_ne, eU_eq]))) k_20 rfl k_21 k_22 q_2 ⟨by decide, by decide, by decide +kernel⟩ rfl ⟨rfl, rfl⟩ ⟨(Nat.le_of_ble_eq_true rfl), (Nat.le_of_ble_eq_true rfl)⟩ ⟨(Nat.le_of_ble_eq_true rfl), (Nat.le_of_ble_eq_true rfl)⟩ rfl (Nat.le_of_ble_eq_true rfl) dX6_init_9 (fun u H locs hu B => ?_)
  obtain ⟨x1, x2, x3⟩ := hu
  have hg0 := gE_state (b := 1) (fun j a b => by omega) x2 x3
  have hE : u 0 = .inr (6, [.null, .null, .int 0, .null, .null, .null, .null, .null]) := by rw [x1 0 (by omega), eU_ne (by omega)]; exact hE
  refine kr_putF C B hini (ci := 6) (N := 8) (k := 0) (fs := [.null, .null, .int 0, .null, .null, .null, .null, .null]) (by omega) (by first | exact hE | (simp (disch := omega) only [eU_ne, eU_eq]; exact hE) | (simp (disch := omega) only [eU_ne, eU_eq]; done) | rfl) rfl inT6 tyX6 tyX6_ok nmX6 0 (by decide) q_170 rfl rfl rfl rfl (Nat.le_of_ble_eq_true rfl) dX6_init_12 (fun H locs B => ?_)
  refine lv_aload_n C.1 C.2.1 dX6_init_15 rfl (lv_at hl 0 rfl) ?_
  refine jr_iconst C dX6_init_16 ?_
  refine kr_newq C B (n1 := 49) (tk := 4) (cA := G.2.1.2.2.2.2) (N' := 4) (by omega) (by omega) (by omega) k_18 hA.2 rfl (by decide) (by decide) (Nat.le_of_ble_eq_true rfl) (Nat.le_of_ble_eq_true rfl) (Nat.le_of_ble_eq_true rfl) dX6_init_17 (fun H B => ?_)
  refine kr_putF C B hini (ci := 6) (N := 8) (k := 0) (fs := [.ref (G.2.2 + 1), .null, .int 0, .null, .null, .null, .null, .null]) (by omega) (by first | exact hE | (simp (disch := omega) only [eU_ne, eU_eq]; exact hE) | (simp (disch := omega) only [eU_ne, eU_eq]; done) | rfl) rfl inT6 tyX6 tyX6_ok nmX6 1 (by decide) q_171 rfl rfl rfl rfl (Nat.le_of_ble_eq_true rfl) dX6_init_20 (fun H locs B => ?_)
  refine jr_iconst C dX6_init_23 ?_
  obtain ⟨E, hE, hg, h48, B⟩ : ∃ E : Nat → va_E, E 0 = .inr (6, [.ref (G.2.2 + 1), .ref (G.2.2 + 48), .int 0, .null, .null, .null, .null, .null]) ∧ (∀ j, 1 ≤ j → j < 49 → j ≠ 48 → gE G j (E j)) ∧ E 48 = .inl (G.2.1.2.2.2.2, 4, .inr (.inr (.inr (.inr (fun _ => none))))) ∧ Kq G 49 E s.heap H locs := ⟨_, (by first | exact hE | (simp (disch := omega) only [eU_ne, eU_eq]; exact hE) | (simp (disch := omega) only [eU_ne, eU_eq]; done) | rfl), fun j j0 j1 j2 => by simp (disch := omega) only [eU_ne, eU_eq]; exact hg0 j j0 (by omega), (by first | exact hE | (simp (disch := omega) only [eU_ne, eU_eq]; exact hE) | (simp (disch := omega) only [eU_ne, eU_eq]; done) | rfl), B⟩
  refine lv_istore_n (lv' := [(1, .int (jI 0)), (0, .ref (G.2.2 + 0))]) C.1 C.2.1 dX6_init_24 rfl hl (by decide) rfl (fun ls hl => ?_)
  refine lv_iload_n C.1 C.2.1 dX6_init_25 rfl (lv_at hl 0 rfl) ?_
  refine jr_iconst C dX6_init_26 ?_
  refine jr_icmp_ge (tgt := 49) (P := True) (P2 := False) C (by decide) (by decide) (by rw [if_pos (by decide)]; trivial) dX6_init_27 (by decide) (fun _ _ => ?_) (fun _ h => h.elim)
  refine lv_aload_n C.1 C.2.1 dX6_init_30 rfl (lv_at hl 1 rfl) ?_
  refine kr_get C B (ci := 6) (N := 8) (k := 0) (fs := [.ref (G.2.2 + 1), .ref (G.2.2 + 48), .int 0, .null, .null, .null, .null, .null]) (by omega) (by first | exact hE | (simp (disch := omega) only [eU_ne, eU_eq]; exact hE) | (simp (disch := omega) only [eU_ne, eU_eq]; done) | rfl) rfl inT6 1 (by decide) q_171 rfl dX6_init_31 ?_
  refine lv_iload_n C.1 C.2.1 dX6_init_34 rfl (lv_at hl 0 rfl) ?_
  refine kr_new C B (n1 := 50) (ci := 4) (fs := [.null, .int 0, .null, .null, .null, .null, .null]) (by omega) (by omega) (by omega) k_18 k_19 q_2 inT4 tyX4 tyX4_ok rfl (fun j hj => by rcases (show j = 0 ∨ j = 1 ∨ j = 2 ∨ j = 3 ∨ j = 4 ∨ j = 5 ∨ j = 6 by omega) with rfl | rfl | rfl | rfl | rfl | rfl | rfl <;> rfl) (Nat.le_of_ble_eq_true rfl) (Nat.le_of_ble_eq_true rfl) dX6_init_35 (fun H B => ?_)
  refine lv_dup C.1 C.2.1 dX6_init_38 rfl ?_
  refine kr_call C hA hl.1 B (by omega) (by omega) (b_X4 (b := 49) (hb_q 0 (by decide)) (by first | exact eU_eq | (simp (disch := omega) only [eU_ne, eU_eq]))) k_20 rfl k_21 k_22 q_2 ⟨by decide, by decide, by decide +kernel⟩ rfl ⟨rfl, rfl⟩ ⟨(Nat.le_of_ble_eq_true rfl), (Nat.le_of_ble_eq_true rfl)⟩ ⟨(Nat.le_of_ble_eq_true rfl), (Nat.le_of_ble_eq_true rfl)⟩ rfl (Nat.le_of_ble_eq_true rfl) dX6_init_39 (fun u H locs hu B => ?_)
  obtain ⟨x1, x2, x3⟩ := hu
  have hg1 := gE_state (b := 49) (fun j a b => by omega) x2 x3
  have y1 : ∀ j, j < 49 → u j = E j := fun j hj => by rw [x1 j hj, eU_ne (by omega)]
  have y2 : u 49 = jE G mM ((49 : Nat) : Int) := x2 49 (by omega) (by omega) (by omega)
  rw [jE5 (by decide)] at y2
  refine kr_astq C B (k := 48) (k2 := 49) (N' := 4) (ci := 4) (tk := 4) (by omega) ((y1 48 (by omega)).trans h48) rfl (by omega) y2 rfl (jI_in (by decide) (by decide)) dX6_init_42 (fun H locs B => ?_)
  obtain ⟨E, hE, hg, h48, B⟩ : ∃ E : Nat → va_E, E 0 = .inr (6, [.ref (G.2.2 + 1), .ref (G.2.2 + 48), .int 0, .null, .null, .null, .null, .null]) ∧ (∀ j, 1 ≤ j → j < 96 → j ≠ 48 → gE G j (E j)) ∧ E 48 = .inl (G.2.1.2.2.2.2, 4, .inr (.inr (.inr (.inr (va_up (fun _ => none) (jI 0).toNatClampNeg (some (G.2.2 + 49))))))) ∧ Kq G 96 E s.heap H locs := ⟨_, by rw [eU_ne (by omega), y1 0 (by omega)]; exact hE, fun j j0 j1 j2 => by
    rw [eU_ne j2]
    rcases Nat.lt_or_ge j 49 with z | z
    · rw [y1 j z]; exact hg j j0 z j2
    · exact hg1 j z j1, eU_eq, B⟩
  refine jr_iinc (k := 0) (lv' := fun y => [(1, .int (jI y)), (0, .ref (G.2.2 + 0))]) (P := fun y => y = 1) C (by show jW (0 + 1) = 1; decide) hl rfl (by decide) (fun _ => rfl) dX6_init_43 (fun y hy _ ls hl => ?_)
  subst hy
  refine lv_goto (tgt := 25) C.1 C.2.1 dX6_init_46 (by decide) ?_
  refine lv_iload_n C.1 C.2.1 dX6_init_25 rfl (lv_at hl 0 rfl) ?_
  refine jr_iconst C dX6_init_26 ?_
  refine jr_icmp_ge (tgt := 49) (P := True) (P2 := False) C (by decide) (by decide) (by rw [if_pos (by decide)]; trivial) dX6_init_27 (by decide) (fun _ _ => ?_) (fun _ h => h.elim)
  refine lv_aload_n C.1 C.2.1 dX6_init_30 rfl (lv_at hl 1 rfl) ?_
  refine kr_get C B (ci := 6) (N := 8) (k := 0) (fs := [.ref (G.2.2 + 1), .ref (G.2.2 + 48), .int 0, .null, .null, .null, .null, .null]) (by omega) (by first | exact hE | (simp (disch := omega) only [eU_ne, eU_eq]; exact hE) | (simp (disch := omega) only [eU_ne, eU_eq]; done) | rfl) rfl inT6 1 (by decide) q_171 rfl dX6_init_31 ?_
  refine lv_iload_n C.1 C.2.1 dX6_init_34 rfl (lv_at hl 0 rfl) ?_
  refine kr_new C B (n1 := 97) (ci := 4) (fs := [.null, .int 0, .null, .null, .null, .null, .null]) (by omega) (by omega) (by omega) k_18 k_19 q_2 inT4 tyX4 tyX4_ok rfl (fun j hj => by rcases (show j = 0 ∨ j = 1 ∨ j = 2 ∨ j = 3 ∨ j = 4 ∨ j = 5 ∨ j = 6 by omega) with rfl | rfl | rfl | rfl | rfl | rfl | rfl <;> rfl) (Nat.le_of_ble_eq_true rfl) (Nat.le_of_ble_eq_true rfl) dX6_init_35 (fun H B => ?_)
  refine lv_dup C.1 C.2.1 dX6_init_38 rfl ?_
  refine kr_call C hA hl.1 B (by omega) (by omega) (b_X4 (b := 96) (hb_q 1 (by decide)) (by first | exact eU_eq | (simp (disch := omega) only [eU_ne, eU_eq]))) k_20 rfl k_21 k_22 q_2 ⟨by decide, by decide, by decide +kernel⟩ rfl ⟨rfl, rfl⟩ ⟨(Nat.le_of_ble_eq_true rfl), (Nat.le_of_ble_eq_true rfl)⟩ ⟨(Nat.le_of_ble_eq_true rfl), (Nat.le_of_ble_eq_true rfl)⟩ rfl (Nat.le_of_ble_eq_true rfl) dX6_init_39 (fun u H locs hu B => ?_)
  obtain ⟨x1, x2, x3⟩ := hu
  have hg1 := gE_state (b := 96) (fun j a b => by omega) x2 x3
  have y1 : ∀ j, j < 96 → u j = E j := fun j hj => by rw [x1 j hj, eU_ne (by omega)]
  have y2 : u 96 = jE G mM ((96 : Nat) : Int) := x2 96 (by omega) (by omega) (by omega)
  rw [jE5 (by decide)] at y2
  refine kr_astq C B (k := 48) (k2 := 96) (N' := 4) (ci := 4) (tk := 4) (by omega) ((y1 48 (by omega)).trans h48) rfl (by omega) y2 rfl (jI_in (by decide) (by decide)) dX6_init_42 (fun H locs B => ?_)
  obtain ⟨E, hE, hg, h48, B⟩ : ∃ E : Nat → va_E, E 0 = .inr (6, [.ref (G.2.2 + 1), .ref (G.2.2 + 48), .int 0, .null, .null, .null, .null, .null]) ∧ (∀ j, 1 ≤ j → j < 143 → j ≠ 48 → gE G j (E j)) ∧ E 48 = .inl (G.2.1.2.2.2.2, 4, .inr (.inr (.inr (.inr (va_up (va_up (fun _ => none) (jI 0).toNatClampNeg (some (G.2.2 + 49))) (jI 1).toNatClampNeg (some (G.2.2 + 96))))))) ∧ Kq G 143 E s.heap H locs := ⟨_, by rw [eU_ne (by omega), y1 0 (by omega)]; exact hE, fun j j0 j1 j2 => by
    rw [eU_ne j2]
    rcases Nat.lt_or_ge j 96 with z | z
    · rw [y1 j z]; exact hg j j0 z j2
    · exact hg1 j z j1, eU_eq, B⟩
  refine jr_iinc (k := 0) (lv' := fun y => [(1, .int (jI y)), (0, .ref (G.2.2 + 0))]) (P := fun y => y = 2) C (by show jW (1 + 1) = 2; decide) hl rfl (by decide) (fun _ => rfl) dX6_init_43 (fun y hy _ ls hl => ?_)
  subst hy
  refine lv_goto (tgt := 25) C.1 C.2.1 dX6_init_46 (by decide) ?_
  refine lv_iload_n C.1 C.2.1 dX6_init_25 rfl (lv_at hl 0 rfl) ?_
  refine jr_iconst C dX6_init_26 ?_
  refine jr_icmp_ge (tgt := 49) (P := True) (P2 := False) C (by decide) (by decide) (by rw [if_pos (by decide)]; trivial) dX6_init_27 (by decide) (fun _ _ => ?_) (fun _ h => h.elim)
  refine lv_aload_n C.1 C.2.1 dX6_init_30 rfl (lv_at hl 1 rfl) ?_
  refine kr_get C B (ci := 6) (N := 8) (k := 0) (fs := [.ref (G.2.2 + 1), .ref (G.2.2 + 48), .int 0, .null, .null, .null, .null, .null]) (by omega) (by first | exact hE | (simp (disch := omega) only [eU_ne, eU_eq]; exact hE) | (simp (disch := omega) only [eU_ne, eU_eq]; done) | rfl) rfl inT6 1 (by decide) q_171 rfl dX6_init_31 ?_
  refine lv_iload_n C.1 C.2.1 dX6_init_34 rfl (lv_at hl 0 rfl) ?_
  refine kr_new C B (n1 := 144) (ci := 4) (fs := [.null, .int 0, .null, .null, .null, .null, .null]) (by omega) (by omega) (by omega) k_18 k_19 q_2 inT4 tyX4 tyX4_ok rfl (fun j hj => by rcases (show j = 0 ∨ j = 1 ∨ j = 2 ∨ j = 3 ∨ j = 4 ∨ j = 5 ∨ j = 6 by omega) with rfl | rfl | rfl | rfl | rfl | rfl | rfl <;> rfl) (Nat.le_of_ble_eq_true rfl) (Nat.le_of_ble_eq_true rfl) dX6_init_35 (fun H B => ?_)
  refine lv_dup C.1 C.2.1 dX6_init_38 rfl ?_
  refine kr_call C hA hl.1 B (by omega) (by omega) (b_X4 (b := 143) (hb_q 2 (by decide)) (by first | exact eU_eq | (simp (disch := omega) only [eU_ne, eU_eq]))) k_20 rfl k_21 k_22 q_2 ⟨by decide, by decide, by decide +kernel⟩ rfl ⟨rfl, rfl⟩ ⟨(Nat.le_of_ble_eq_true rfl), (Nat.le_of_ble_eq_true rfl)⟩ ⟨(Nat.le_of_ble_eq_true rfl), (Nat.le_of_ble_eq_true rfl)⟩ rfl (Nat.le_of_ble_eq_true rfl) dX6_init_39 (fun u H locs hu B => ?_)
  obtain ⟨x1, x2, x3⟩ := hu
  have hg1 := gE_state (b := 143) (fun j a b => by omega) x2 x3
  have y1 : ∀ j, j < 143 → u j = E j := fun j hj => by rw [x1 j hj, eU_ne (by omega)]
  have y2 : u 143 = jE G mM ((143 : Nat) : Int) := x2 143 (by omega) (by omega) (by omega)
  rw [jE5 (by decide)] at y2
  refine kr_astq C B (k := 48) (k2 := 143) (N' := 4) (ci := 4) (tk := 4) (by omega) ((y1 48 (by omega)).trans h48) rfl (by omega) y2 rfl (jI_in (by decide) (by decide)) dX6_init_42 (fun H locs B => ?_)
  obtain ⟨E, hE, hg, h48, B⟩ : ∃ E : Nat → va_E, E 0 = .inr (6, [.ref (G.2.2 + 1), .ref (G.2.2 + 48), .int 0, .null, .null, .null, .null, .null]) ∧ (∀ j, 1 ≤ j → j < 190 → j ≠ 48 → gE G j (E j)) ∧ E 48 = .inl (G.2.1.2.2.2.2, 4, .inr (.inr (.inr (.inr (va_up (va_up (va_up (fun _ => none) (jI 0).toNatClampNeg (some (G.2.2 + 49))) (jI 1).toNatClampNeg (some (G.2.2 + 96))) (jI 2).toNatClampNeg (some (G.2.2 + 143))))))) ∧ Kq G 190 E s.heap H locs := ⟨_, by rw [eU_ne (by omega), y1 0 (by omega)]; exact hE, fun j j0 j1 j2 => by
    rw [eU_ne j2]
    rcases Nat.lt_or_ge j 143 with z | z
    · rw [y1 j z]; exact hg j j0 z j2
    · exact hg1 j z j1, eU_eq, B⟩
  refine jr_iinc (k := 0) (lv' := fun y => [(1, .int (jI y)), (0, .ref (G.2.2 + 0))]) (P := fun y => y = 3) C (by show jW (2 + 1) = 3; decide) hl rfl (by decide) (fun _ => rfl) dX6_init_43 (fun y hy _ ls hl => ?_)
  subst hy
  refine lv_goto (tgt := 25) C.1 C.2.1 dX6_init_46 (by decide) ?_
  refine lv_iload_n C.1 C.2.1 dX6_init_25 rfl (lv_at hl 0 rfl) ?_
  refine jr_iconst C dX6_init_26 ?_
  refine jr_icmp_ge (tgt := 49) (P := True) (P2 := False) C (by decide) (by decide) (by rw [if_pos (by decide)]; trivial) dX6_init_27 (by decide) (fun _ _ => ?_) (fun _ h => h.elim)
  refine lv_aload_n C.1 C.2.1 dX6_init_30 rfl (lv_at hl 1 rfl) ?_
  refine kr_get C B (ci := 6) (N := 8) (k := 0) (fs := [.ref (G.2.2 + 1), .ref (G.2.2 + 48), .int 0, .null, .null, .null, .null, .null]) (by omega) (by first | exact hE | (simp (disch := omega) only [eU_ne, eU_eq]; exact hE) | (simp (disch := omega) only [eU_ne, eU_eq]; done) | rfl) rfl inT6 1 (by decide) q_171 rfl dX6_init_31 ?_
  refine lv_iload_n C.1 C.2.1 dX6_init_34 rfl (lv_at hl 0 rfl) ?_
  refine kr_new C B (n1 := 191) (ci := 4) (fs := [.null, .int 0, .null, .null, .null, .null, .null]) (by omega) (by omega) (by omega) k_18 k_19 q_2 inT4 tyX4 tyX4_ok rfl (fun j hj => by rcases (show j = 0 ∨ j = 1 ∨ j = 2 ∨ j = 3 ∨ j = 4 ∨ j = 5 ∨ j = 6 by omega) with rfl | rfl | rfl | rfl | rfl | rfl | rfl <;> rfl) (Nat.le_of_ble_eq_true rfl) (Nat.le_of_ble_eq_true rfl) dX6_init_35 (fun H B => ?_)
  refine lv_dup C.1 C.2.1 dX6_init_38 rfl ?_
  refine kr_call C hA hl.1 B (by omega) (by omega) (b_X4 (b := 190) (hb_q 3 (by decide)) (by first | exact eU_eq | (simp (disch := omega) only [eU_ne, eU_eq]))) k_20 rfl k_21 k_22 q_2 ⟨by decide, by decide, by decide +kernel⟩ rfl ⟨rfl, rfl⟩ ⟨(Nat.le_of_ble_eq_true rfl), (Nat.le_of_ble_eq_true rfl)⟩ ⟨(Nat.le_of_ble_eq_true rfl), (Nat.le_of_ble_eq_true rfl)⟩ rfl (Nat.le_of_ble_eq_true rfl) dX6_init_39 (fun u H locs hu B => ?_)
  obtain ⟨x1, x2, x3⟩ := hu
  have hg1 := gE_state (b := 190) (fun j a b => by omega) x2 x3
  have y1 : ∀ j, j < 190 → u j = E j := fun j hj => by rw [x1 j hj, eU_ne (by omega)]
  have y2 : u 190 = jE G mM ((190 : Nat) : Int) := x2 190 (by omega) (by omega) (by omega)
  rw [jE5 (by decide)] at y2
  refine kr_astq C B (k := 48) (k2 := 190) (N' := 4) (ci := 4) (tk := 4) (by omega) ((y1 48 (by omega)).trans h48) rfl (by omega) y2 rfl (jI_in (by decide) (by decide)) dX6_init_42 (fun H locs B => ?_)
  obtain ⟨E, hE, hg, h48, B⟩ : ∃ E : Nat → va_E, E 0 = .inr (6, [.ref (G.2.2 + 1), .ref (G.2.2 + 48), .int 0, .null, .null, .null, .null, .null]) ∧ (∀ j, 1 ≤ j → j < 237 → j ≠ 48 → gE G j (E j)) ∧ E 48 = .inl (G.2.1.2.2.2.2, 4, .inr (.inr (.inr (.inr (va_up (va_up (va_up (va_up (fun _ => none) (jI 0).toNatClampNeg (some (G.2.2 + 49))) (jI 1).toNatClampNeg (some (G.2.2 + 96))) (jI 2).toNatClampNeg (some (G.2.2 + 143))) (jI 3).toNatClampNeg (some (G.2.2 + 190))))))) ∧ Kq G 237 E s.heap H locs := ⟨_, by rw [eU_ne (by omega), y1 0 (by omega)]; exact hE, fun j j0 j1 j2 => by
    rw [eU_ne j2]
    rcases Nat.lt_or_ge j 190 with z | z
    · rw [y1 j z]; exact hg j j0 z j2
    · exact hg1 j z j1, eU_eq, B⟩
  refine jr_iinc (k := 0) (lv' := fun y => [(1, .int (jI y)), (0, .ref (G.2.2 + 0))]) (P := fun y => y = 4) C (by show jW (3 + 1) = 4; decide) hl rfl (by decide) (fun _ => rfl) dX6_init_43 (fun y hy _ ls hl => ?_)
  subst hy
  refine lv_goto (tgt := 25) C.1 C.2.1 dX6_init_46 (by decide) ?_
  refine lv_iload_n C.1 C.2.1 dX6_init_25 rfl (lv_at hl 0 rfl) ?_
  refine jr_iconst C dX6_init_26 ?_
  refine jr_icmp_ge (tgt := 49) (P := False) (P2 := True) C (by decide) (by decide) (by rw [if_neg (by decide)]; trivial) dX6_init_27 (by decide) (fun _ h => h.elim) (fun _ _ => ?_)
  refine lv_aload_n C.1 C.2.1 dX6_init_49 rfl (lv_at hl 1 rfl) ?_
  refine jr_iconst C dX6_init_50 ?_
  refine kr_put C B (ci := 6) (N := 8) (k := 0) (fs := [.ref (G.2.2 + 1), .ref (G.2.2 + 48), .int 0, .null, .null, .null, .null, .null]) (by omega) (by first | exact hE | (simp (disch := omega) only [eU_ne, eU_eq]; exact hE) | (simp (disch := omega) only [eU_ne, eU_eq]; done) | rfl) rfl inT6 tyX6 tyX6_ok nmX6 2 (by decide) q_172 rfl rfl rfl (Nat.le_of_ble_eq_true rfl) dX6_init_51 (fun H locs B => ?_)
  refine lv_aload_n C.1 C.2.1 dX6_init_54 rfl (lv_at hl 1 rfl) ?_
  refine kr_new C B (n1 := 238) (ci := 3) (fs := [.null, .int 0]) (by omega) (by omega) (by omega) k_87 k_88 q_4 inT3 tyX3 tyX3_ok rfl (fun j hj => by rcases (show j = 0 ∨ j = 1 by omega) with rfl | rfl <;> rfl) (Nat.le_of_ble_eq_true rfl) (Nat.le_of_ble_eq_true rfl) dX6_init_55 (fun H B => ?_)
  refine lv_dup C.1 C.2.1 dX6_init_58 rfl ?_
  refine jr_bipush C dX6_init_59 (by decide) ?_
  refine kr_call C hA hl.1 B (by omega) (by omega) (b_X3 (n := 238) (k := 237) (L := 90) (by omega) (by omega) (by first | exact eU_eq | (simp (disch := omega) only [eU_ne, eU_eq]))) k_89 rfl k_90 k_91 q_4 ⟨by decide, by decide, by decide +kernel⟩ rfl ⟨rfl, rfl⟩ ⟨(Nat.le_of_ble_eq_true rfl), (Nat.le_of_ble_eq_true rfl)⟩ ⟨(Nat.le_of_ble_eq_true rfl), (Nat.le_of_ble_eq_true rfl)⟩ rfl (Nat.le_of_ble_eq_true rfl) dX6_init_61 (fun u H locs hu B => ?_)
  obtain ⟨x1, x2, x3⟩ := hu
  have y0 : u 0 = .inr (6, [.ref (G.2.2 + 1), .ref (G.2.2 + 48), .int (jI 0), .null, .null, .null, .null, .null]) := by rw [x1 0 (by omega) (by omega)]; first | exact hE | (simp (disch := omega) only [eU_ne, eU_eq]; exact hE) | (simp (disch := omega) only [eU_ne, eU_eq]; done) | rfl
  have y1 : ∀ j, 1 ≤ j → j < 237 → u j = E j := fun j j0 j1 => by rw [x1 j (by omega) (by omega)]; simp (disch := omega) only [eU_ne, eU_eq]
  have hE := y0
  refine kr_putF C B hini (ci := 6) (N := 8) (k := 0) (fs := [.ref (G.2.2 + 1), .ref (G.2.2 + 48), .int (jI 0), .null, .null, .null, .null, .null]) (by omega) (by first | exact hE | (simp (disch := omega) only [eU_ne, eU_eq]; exact hE) | (simp (disch := omega) only [eU_ne, eU_eq]; done) | rfl) rfl inT6 tyX6 tyX6_ok nmX6 3 (by decide) q_173 rfl rfl rfl rfl (Nat.le_of_ble_eq_true rfl) dX6_init_64 (fun H locs B => ?_)
  obtain ⟨E, hE, hg, h48, B⟩ : ∃ E : Nat → va_E, E 0 = .inr (6, [.ref (G.2.2 + 1), .ref (G.2.2 + 48), .int (jI 0), .ref (G.2.2 + 237), .null, .null, .null, .null]) ∧ (∀ j, 1 ≤ j → j < 239 → j ≠ 48 → gE G j (E j)) ∧ E 48 = .inl (G.2.1.2.2.2.2, 4, .inr (.inr (.inr (.inr (va_up (va_up (va_up (va_up (fun _ => none) (jI 0).toNatClampNeg (some (G.2.2 + 49))) (jI 1).toNatClampNeg (some (G.2.2 + 96))) (jI 2).toNatClampNeg (some (G.2.2 + 143))) (jI 3).toNatClampNeg (some (G.2.2 + 190))))))) ∧ Kq G 239 E s.heap H locs := ⟨_, (by first | exact hE | (simp (disch := omega) only [eU_ne, eU_eq]; exact hE) | (simp (disch := omega) only [eU_ne, eU_eq]; done) | rfl), fun j j0 j1 j2 => by
    rw [eU_ne (by omega)]
    rcases (by omega : j < 237 ∨ j = 237 ∨ j = 238) with z | rfl | rfl
    · rw [y1 j j0 z]; exact hg j j0 z j2
    · refine gE_eq (by omega) ((show _ = _ from x2).trans ?_)
      exact cell_237.symm
    · refine gE_eq (by omega) ((show _ = _ from x3).trans ?_)
      exact cell_238.symm, by rw [eU_ne (by omega), y1 48 (by omega) (by omega)]; exact h48, B⟩
  refine lv_aload_n C.1 C.2.1 dX6_init_67 rfl (lv_at hl 1 rfl) ?_
  refine kr_new C B (n1 := 240) (ci := 3) (fs := [.null, .int 0]) (by omega) (by omega) (by omega) k_87 k_88 q_4 inT3 tyX3 tyX3_ok rfl (fun j hj => by rcases (show j = 0 ∨ j = 1 by omega) with rfl | rfl <;> rfl) (Nat.le_of_ble_eq_true rfl) (Nat.le_of_ble_eq_true rfl) dX6_init_68 (fun H B => ?_)
  refine lv_dup C.1 C.2.1 dX6_init_71 rfl ?_
  refine jr_sipush C dX6_init_72 (by decide) ?_
  refine kr_call C hA hl.1 B (by omega) (by omega) (b_X3 (n := 240) (k := 239) (L := 400) (by omega) (by omega) (by first | exact eU_eq | (simp (disch := omega) only [eU_ne, eU_eq]))) k_89 rfl k_90 k_91 q_4 ⟨by decide, by decide, by decide +kernel⟩ rfl ⟨rfl, rfl⟩ ⟨(Nat.le_of_ble_eq_true rfl), (Nat.le_of_ble_eq_true rfl)⟩ ⟨(Nat.le_of_ble_eq_true rfl), (Nat.le_of_ble_eq_true rfl)⟩ rfl (Nat.le_of_ble_eq_true rfl) dX6_init_75 (fun u H locs hu B => ?_)
  obtain ⟨x1, x2, x3⟩ := hu
  have y0 : u 0 = .inr (6, [.ref (G.2.2 + 1), .ref (G.2.2 + 48), .int (jI 0), .ref (G.2.2 + 237), .null, .null, .null, .null]) := by rw [x1 0 (by omega) (by omega)]; first | exact hE | (simp (disch := omega) only [eU_ne, eU_eq]; exact hE) | (simp (disch := omega) only [eU_ne, eU_eq]; done) | rfl
  have y1 : ∀ j, 1 ≤ j → j < 239 → u j = E j := fun j j0 j1 => by rw [x1 j (by omega) (by omega)]; simp (disch := omega) only [eU_ne, eU_eq]
  have hE := y0
  refine kr_putF C B hini (ci := 6) (N := 8) (k := 0) (fs := [.ref (G.2.2 + 1), .ref (G.2.2 + 48), .int (jI 0), .ref (G.2.2 + 237), .null, .null, .null, .null]) (by omega) (by first | exact hE | (simp (disch := omega) only [eU_ne, eU_eq]; exact hE) | (simp (disch := omega) only [eU_ne, eU_eq]; done) | rfl) rfl inT6 tyX6 tyX6_ok nmX6 4 (by decide) q_174 rfl rfl rfl rfl (Nat.le_of_ble_eq_true rfl) dX6_init_78 (fun H locs B => ?_)
  obtain ⟨E, hE, hg, h48, B⟩ : ∃ E : Nat → va_E, E 0 = .inr (6, [.ref (G.2.2 + 1), .ref (G.2.2 + 48), .int (jI 0), .ref (G.2.2 + 237), .ref (G.2.2 + 239), .null, .null, .null]) ∧ (∀ j, 1 ≤ j → j < 241 → j ≠ 48 → gE G j (E j)) ∧ E 48 = .inl (G.2.1.2.2.2.2, 4, .inr (.inr (.inr (.inr (va_up (va_up (va_up (va_up (fun _ => none) (jI 0).toNatClampNeg (some (G.2.2 + 49))) (jI 1).toNatClampNeg (some (G.2.2 + 96))) (jI 2).toNatClampNeg (some (G.2.2 + 143))) (jI 3).toNatClampNeg (some (G.2.2 + 190))))))) ∧ Kq G 241 E s.heap H locs := ⟨_, (by first | exact hE | (simp (disch := omega) only [eU_ne, eU_eq]; exact hE) | (simp (disch := omega) only [eU_ne, eU_eq]; done) | rfl), fun j j0 j1 j2 => by
    rw [eU_ne (by omega)]
    rcases (by omega : j < 239 ∨ j = 239 ∨ j = 240) with z | rfl | rfl
    · rw [y1 j j0 z]; exact hg j j0 z j2
    · refine gE_eq (by omega) ((show _ = _ from x2).trans ?_)
      exact cell_239.symm
    · refine gE_eq (by omega) ((show _ = _ from x3).trans ?_)
      exact cell_240.symm, by rw [eU_ne (by omega), y1 48 (by omega) (by omega)]; exact h48, B⟩
  refine lv_aload_n C.1 C.2.1 dX6_init_81 rfl (lv_at hl 1 rfl) ?_
  refine kr_new C B (n1 := 242) (ci := 5) (fs := [.null, .int 0, .int 0, .int 0, .int 0]) (by omega) (by omega) (by omega) k_103 k_104 q_5 inT5 tyX5 tyX5_ok rfl (fun j hj => by rcases (show j = 0 ∨ j = 1 ∨ j = 2 ∨ j = 3 ∨ j = 4 by omega) with rfl | rfl | rfl | rfl | rfl <;> rfl) (Nat.le_of_ble_eq_true rfl) (Nat.le_of_ble_eq_true rfl) dX6_init_82 (fun H B => ?_)
  refine lv_dup C.1 C.2.1 dX6_init_85 rfl ?_
  refine kr_call C hA hl.1 B (by omega) (by omega) (b_X5 (n := 242) (k := 241) (by omega) (by first | exact eU_eq | (simp (disch := omega) only [eU_ne, eU_eq]))) k_105 rfl k_106 k_107 q_5 ⟨by decide, by decide, by decide +kernel⟩ rfl ⟨rfl, rfl⟩ ⟨(Nat.le_of_ble_eq_true rfl), (Nat.le_of_ble_eq_true rfl)⟩ ⟨(Nat.le_of_ble_eq_true rfl), (Nat.le_of_ble_eq_true rfl)⟩ rfl (Nat.le_of_ble_eq_true rfl) dX6_init_86 (fun u H locs hu B => ?_)
  obtain ⟨x1, x2, x3, x4, x5, x6⟩ := hu
  have y0 : u 0 = .inr (6, [.ref (G.2.2 + 1), .ref (G.2.2 + 48), .int (jI 0), .ref (G.2.2 + 237), .ref (G.2.2 + 239), .null, .null, .null]) := by rw [x1 0 (by omega) (by omega)]; first | exact hE | (simp (disch := omega) only [eU_ne, eU_eq]; exact hE) | (simp (disch := omega) only [eU_ne, eU_eq]; done) | rfl
  have y1 : ∀ j, 1 ≤ j → j < 241 → u j = E j := fun j j0 j1 => by rw [x1 j (by omega) (by omega)]; simp (disch := omega) only [eU_ne, eU_eq]
  have hE := y0
  refine kr_putF C B hini (ci := 6) (N := 8) (k := 0) (fs := [.ref (G.2.2 + 1), .ref (G.2.2 + 48), .int (jI 0), .ref (G.2.2 + 237), .ref (G.2.2 + 239), .null, .null, .null]) (by omega) (by first | exact hE | (simp (disch := omega) only [eU_ne, eU_eq]; exact hE) | (simp (disch := omega) only [eU_ne, eU_eq]; done) | rfl) rfl inT6 tyX6 tyX6_ok nmX6 5 (by decide) q_175 rfl rfl rfl rfl (Nat.le_of_ble_eq_true rfl) dX6_init_89 (fun H locs B => ?_)
  obtain ⟨E, hE, hg, h48, B⟩ : ∃ E : Nat → va_E, E 0 = .inr (6, [.ref (G.2.2 + 1), .ref (G.2.2 + 48), .int (jI 0), .ref (G.2.2 + 237), .ref (G.2.2 + 239), .ref (G.2.2 + 241), .null, .null]) ∧ (∀ j, 1 ≤ j → j < 246 → j ≠ 48 → gE G j (E j)) ∧ E 48 = .inl (G.2.1.2.2.2.2, 4, .inr (.inr (.inr (.inr (va_up (va_up (va_up (va_up (fun _ => none) (jI 0).toNatClampNeg (some (G.2.2 + 49))) (jI 1).toNatClampNeg (some (G.2.2 + 96))) (jI 2).toNatClampNeg (some (G.2.2 + 143))) (jI 3).toNatClampNeg (some (G.2.2 + 190))))))) ∧ Kq G 246 E s.heap H locs := ⟨_, (by first | exact hE | (simp (disch := omega) only [eU_ne, eU_eq]; exact hE) | (simp (disch := omega) only [eU_ne, eU_eq]; done) | rfl), fun j j0 j1 j2 => by
    rw [eU_ne (by omega)]
    rcases (by omega : j < 241 ∨ j = 241 ∨ j = 242 ∨ j = 243 ∨ j = 244 ∨ j = 245) with z | rfl | rfl | rfl | rfl | rfl
    · rw [y1 j j0 z]; exact hg j j0 z j2
    · refine gE_eq (by omega) ((show _ = _ from x2).trans ?_)
      exact cell_241.symm
    · refine gE_eq (by omega) ((show _ = _ from x3).trans ?_)
      exact cell_242.symm
    · refine gE_eq (by omega) ((show _ = _ from x4).trans ?_)
      exact cell_243.symm
    · refine gE_eq (by omega) ((show _ = _ from x5).trans ?_)
      exact cell_244.symm
    · refine gE_eq (by omega) ((show _ = _ from x6).trans ?_)
      exact cell_245.symm, by rw [eU_ne (by omega), y1 48 (by omega) (by omega)]; exact h48, B⟩
  refine lv_aload_n C.1 C.2.1 dX6_init_92 rfl (lv_at hl 1 rfl) ?_
  refine kr_new C B (n1 := 247) (ci := 2) (fs := [.null, .int 0]) (by omega) (by omega) (by omega) k_128 k_129 q_6 inT2 tyX2 tyX2_ok rfl (fun j hj => by rcases (show j = 0 ∨ j = 1 by omega) with rfl | rfl <;> rfl) (Nat.le_of_ble_eq_true rfl) (Nat.le_of_ble_eq_true rfl) dX6_init_93 (fun H B => ?_)
  refine lv_dup C.1 C.2.1 dX6_init_96 rfl ?_
  refine kr_call C hA hl.1 B (by omega) (by omega) (b_X2 (n := 247) (k := 246) (by omega) (by first | exact eU_eq | (simp (disch := omega) only [eU_ne, eU_eq]))) k_130 rfl k_131 k_132 q_6 ⟨by decide, by decide, by decide +kernel⟩ rfl ⟨rfl, rfl⟩ ⟨(Nat.le_of_ble_eq_true rfl), (Nat.le_of_ble_eq_true rfl)⟩ ⟨(Nat.le_of_ble_eq_true rfl), (Nat.le_of_ble_eq_true rfl)⟩ rfl (Nat.le_of_ble_eq_true rfl) dX6_init_97 (fun u H locs hu B => ?_)
  obtain ⟨x1, x2, x3⟩ := hu
  have y0 : u 0 = .inr (6, [.ref (G.2.2 + 1), .ref (G.2.2 + 48), .int (jI 0), .ref (G.2.2 + 237), .ref (G.2.2 + 239), .ref (G.2.2 + 241), .null, .null]) := by rw [x1 0 (by omega) (by omega)]; first | exact hE | (simp (disch := omega) only [eU_ne, eU_eq]; exact hE) | (simp (disch := omega) only [eU_ne, eU_eq]; done) | rfl
  have y1 : ∀ j, 1 ≤ j → j < 246 → u j = E j := fun j j0 j1 => by rw [x1 j (by omega) (by omega)]; simp (disch := omega) only [eU_ne, eU_eq]
  have hE := y0
  refine kr_putF C B hini (ci := 6) (N := 8) (k := 0) (fs := [.ref (G.2.2 + 1), .ref (G.2.2 + 48), .int (jI 0), .ref (G.2.2 + 237), .ref (G.2.2 + 239), .ref (G.2.2 + 241), .null, .null]) (by omega) (by first | exact hE | (simp (disch := omega) only [eU_ne, eU_eq]; exact hE) | (simp (disch := omega) only [eU_ne, eU_eq]; done) | rfl) rfl inT6 tyX6 tyX6_ok nmX6 6 (by decide) q_176 rfl rfl rfl rfl (Nat.le_of_ble_eq_true rfl) dX6_init_100 (fun H locs B => ?_)
  obtain ⟨E, hE, hg, h48, B⟩ : ∃ E : Nat → va_E, E 0 = .inr (6, [.ref (G.2.2 + 1), .ref (G.2.2 + 48), .int (jI 0), .ref (G.2.2 + 237), .ref (G.2.2 + 239), .ref (G.2.2 + 241), .ref (G.2.2 + 246), .null]) ∧ (∀ j, 1 ≤ j → j < 248 → j ≠ 48 → gE G j (E j)) ∧ E 48 = .inl (G.2.1.2.2.2.2, 4, .inr (.inr (.inr (.inr (va_up (va_up (va_up (va_up (fun _ => none) (jI 0).toNatClampNeg (some (G.2.2 + 49))) (jI 1).toNatClampNeg (some (G.2.2 + 96))) (jI 2).toNatClampNeg (some (G.2.2 + 143))) (jI 3).toNatClampNeg (some (G.2.2 + 190))))))) ∧ Kq G 248 E s.heap H locs := ⟨_, (by first | exact hE | (simp (disch := omega) only [eU_ne, eU_eq]; exact hE) | (simp (disch := omega) only [eU_ne, eU_eq]; done) | rfl), fun j j0 j1 j2 => by
    rw [eU_ne (by omega)]
    rcases (by omega : j < 246 ∨ j = 246 ∨ j = 247) with z | rfl | rfl
    · rw [y1 j j0 z]; exact hg j j0 z j2
    · refine gE_eq (by omega) ((show _ = _ from x2).trans ?_)
      exact cell_246.symm
    · refine gE_eq (by omega) ((show _ = _ from x3).trans ?_)
      exact cell_247.symm, by rw [eU_ne (by omega), y1 48 (by omega) (by omega)]; exact h48, B⟩
  refine lv_aload_n C.1 C.2.1 dX6_init_103 rfl (lv_at hl 1 rfl) ?_
  refine kr_new C B (n1 := 249) (ci := 0) (fs := [.null, .null, .null, .int 0, .int 0]) (by omega) (by omega) (by omega) k_144 k_145 q_7 inT0 tyX0 tyX0_ok rfl (fun j hj => by rcases (show j = 0 ∨ j = 1 ∨ j = 2 ∨ j = 3 ∨ j = 4 by omega) with rfl | rfl | rfl | rfl | rfl <;> rfl) (Nat.le_of_ble_eq_true rfl) (Nat.le_of_ble_eq_true rfl) dX6_init_104 (fun H B => ?_)
  refine lv_dup C.1 C.2.1 dX6_init_107 rfl ?_
  refine kr_call C hA hl.1 B (by omega) (by omega) (b_X0 (n := 249) (k := 248) (by omega) (by first | exact eU_eq | (simp (disch := omega) only [eU_ne, eU_eq]))) k_146 rfl k_147 k_148 q_7 ⟨by decide, by decide, by decide +kernel⟩ rfl ⟨rfl, rfl⟩ ⟨(Nat.le_of_ble_eq_true rfl), (Nat.le_of_ble_eq_true rfl)⟩ ⟨(Nat.le_of_ble_eq_true rfl), (Nat.le_of_ble_eq_true rfl)⟩ rfl (Nat.le_of_ble_eq_true rfl) dX6_init_108 (fun u H locs hu B => ?_)
  obtain ⟨x1, x2, x3, x4, x5⟩ := hu
  have y0 : u 0 = .inr (6, [.ref (G.2.2 + 1), .ref (G.2.2 + 48), .int (jI 0), .ref (G.2.2 + 237), .ref (G.2.2 + 239), .ref (G.2.2 + 241), .ref (G.2.2 + 246), .null]) := by rw [x1 0 (by omega) (by omega)]; first | exact hE | (simp (disch := omega) only [eU_ne, eU_eq]; exact hE) | (simp (disch := omega) only [eU_ne, eU_eq]; done) | rfl
  have y1 : ∀ j, 1 ≤ j → j < 248 → u j = E j := fun j j0 j1 => by rw [x1 j (by omega) (by omega)]; simp (disch := omega) only [eU_ne, eU_eq]
  have hE := y0
  refine kr_putF C B hini (ci := 6) (N := 8) (k := 0) (fs := [.ref (G.2.2 + 1), .ref (G.2.2 + 48), .int (jI 0), .ref (G.2.2 + 237), .ref (G.2.2 + 239), .ref (G.2.2 + 241), .ref (G.2.2 + 246), .null]) (by omega) (by first | exact hE | (simp (disch := omega) only [eU_ne, eU_eq]; exact hE) | (simp (disch := omega) only [eU_ne, eU_eq]; done) | rfl) rfl inT6 tyX6 tyX6_ok nmX6 7 (by decide) q_177 rfl rfl rfl rfl (Nat.le_of_ble_eq_true rfl) dX6_init_111 (fun H locs B => ?_)
  obtain ⟨E, hE, hg, h48, B⟩ : ∃ E : Nat → va_E, E 0 = .inr (6, [.ref (G.2.2 + 1), .ref (G.2.2 + 48), .int (jI 0), .ref (G.2.2 + 237), .ref (G.2.2 + 239), .ref (G.2.2 + 241), .ref (G.2.2 + 246), .ref (G.2.2 + 248)]) ∧ (∀ j, 1 ≤ j → j < 252 → j ≠ 48 → gE G j (E j)) ∧ E 48 = .inl (G.2.1.2.2.2.2, 4, .inr (.inr (.inr (.inr (va_up (va_up (va_up (va_up (fun _ => none) (jI 0).toNatClampNeg (some (G.2.2 + 49))) (jI 1).toNatClampNeg (some (G.2.2 + 96))) (jI 2).toNatClampNeg (some (G.2.2 + 143))) (jI 3).toNatClampNeg (some (G.2.2 + 190))))))) ∧ Kq G 252 E s.heap H locs := ⟨_, (by first | exact hE | (simp (disch := omega) only [eU_ne, eU_eq]; exact hE) | (simp (disch := omega) only [eU_ne, eU_eq]; done) | rfl), fun j j0 j1 j2 => by
    rw [eU_ne (by omega)]
    rcases (by omega : j < 248 ∨ j = 248 ∨ j = 249 ∨ j = 250 ∨ j = 251) with z | rfl | rfl | rfl | rfl
    · rw [y1 j j0 z]; exact hg j j0 z j2
    · refine gE_eq (by omega) ((show _ = _ from x2).trans ?_)
      exact cell_248.symm
    · refine gE_eq (by omega) ((show _ = _ from x3).trans ?_)
      exact cell_249.symm
    · refine gE_eq (by omega) ((show _ = _ from x4).trans ?_)
      exact cell_250.symm
    · refine gE_eq (by omega) ((show _ = _ from x5).trans ?_)
      exact cell_251.symm, by rw [eU_ne (by omega), y1 48 (by omega) (by omega)]; exact h48, B⟩
  exact kr_vret C B hr hlocks ⟨hE.trans cell_0.symm, hg, h48⟩ dX6_init_114
