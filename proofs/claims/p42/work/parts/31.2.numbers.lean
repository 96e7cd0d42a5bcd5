def lp_L_numbers_64 (N : Nat) (a1 : Int) (a2 : Int) (a3 : Int) (x1 : Int) (x2 : Int) (x8 : Int) (kx64 : Int → Int → Int → Int → jM → Prop) : Nat → Int → Int → Int → Int → Int → jM → Prop
  | 0, _, _, _, _, _, _ => False
  | n + 1, x32, x33, x34, x35, x36, M37 => (w_X6_subvalues N M37 a1 a2 x2 x8 (fun x65 => (if x36 < x65 then (w_X6_get N M37 a1 a2 x2 x8 x36 (fun x66 => (jL (jW (x33 + x66)) (fun x67 => (jL (fun (x68 : Int) => (if x34 = 0 then (if x1 = 0 then (jL (jW (x32 + 1)) (fun x70 => (jL (jW (x36 + 1)) (fun x71 => (lp_L_numbers_64 N a1 a2 a3 x1 x2 x8 kx64 n x70 x67 0 x68 x71 M37))))) else (jL (jW (x32 + 0)) (fun x72 => (jL (jW (x36 + 1)) (fun x73 => (lp_L_numbers_64 N a1 a2 a3 x1 x2 x8 kx64 n x72 x67 0 x68 x73 M37)))))) else (if x1 = 0 then (w_X6_numberAt N M37 a1 a2 a3 x32 (fun x74 M75 => (if x74 = x66 then (if x1 = 0 then (jL (jW (x32 + 1)) (fun x76 => (jL (jW (x36 + 1)) (fun x77 => (lp_L_numbers_64 N a1 a2 a3 x1 x2 x8 kx64 n x76 x67 1 x68 x77 M75))))) else (jL (jW (x32 + 0)) (fun x78 => (jL (jW (x36 + 1)) (fun x79 => (lp_L_numbers_64 N a1 a2 a3 x1 x2 x8 kx64 n x78 x67 1 x68 x79 M75)))))) else (if x1 = 0 then (jL (jW (x32 + 1)) (fun x80 => (jL (jW (x36 + 1)) (fun x81 => (lp_L_numbers_64 N a1 a2 a3 x1 x2 x8 kx64 n x80 x67 0 x68 x81 M75))))) else (jL (jW (x32 + 0)) (fun x82 => (jL (jW (x36 + 1)) (fun x83 => (lp_L_numbers_64 N a1 a2 a3 x1 x2 x8 kx64 n x82 x67 0 x68 x83 M75))))))))) else (if x1 = 0 then (jL (jW (x32 + 1)) (fun x84 => (jL (jW (x36 + 1)) (fun x85 => (lp_L_numbers_64 N a1 a2 a3 x1 x2 x8 kx64 n x84 x67 1 x68 x85 M37))))) else (jL (jW (x32 + 0)) (fun x86 => (jL (jW (x36 + 1)) (fun x87 => (lp_L_numbers_64 N a1 a2 a3 x1 x2 x8 kx64 n x86 x67 1 x68 x87 M37))))))))) (fun j102_69 => (if x66 ≤ x35 then (j102_69 x35) else (j102_69 x66)))))))) else (kx64 x32 x33 x34 x35 M37))))
def lp_L_numbers_44 (N : Nat) (a1 : Int) (a2 : Int) (a3 : Int) (x1 : Int) (x2 : Int) (x3 : Int) (x4 : Int) (kx44 : Int → Int → Int → jM → Prop) : Nat → Int → Int → Int → Int → jM → Prop
  | 0, _, _, _, _, _ => False
  | n + 1, x5, x6, x7, x8, M9 => (if x8 < x4 then (if x7 = 0 then (kx44 x5 x6 x7 M9) else (lp_L_numbers_64 N a1 a2 a3 x1 x2 x8 (fun (x38 : Int) (x39 : Int) (x40 : Int) (x41 : Int) (M42 : jM) => (if x40 = 0 then (jL (jW (x8 + 1)) (fun x43 => (lp_L_numbers_44 N a1 a2 a3 x1 x2 x3 x4 kx44 n x38 x39 0 x43 M42))) else (if x1 = 3 then (w_X6_numberAt N M42 a1 a2 a3 x8 (fun x44 M45 => (if x44 = x41 then (if x1 = 4 then (w_X6_values N M45 a1 a2 x3 (fun x46 => (if x8 < x46 then (w_X6_numberAt N M45 a1 a2 a3 x8 (fun x47 M48 => (w_X6_get N M48 a1 a2 x2 x8 0 (fun x49 => (w_X6_get N M48 a1 a2 x3 x8 0 (fun x50 => (if x47 = (jW (x49 * x50)) then (jL (jW (x8 + 1)) (fun x51 => (lp_L_numbers_44 N a1 a2 a3 x1 x2 x3 x4 kx44 n x38 x39 1 x51 M48))) else (jL (jW (x8 + 1)) (fun x52 => (lp_L_numbers_44 N a1 a2 a3 x1 x2 x3 x4 kx44 n x38 x39 0 x52 M48)))))))))) else (jL (jW (x8 + 1)) (fun x53 => (lp_L_numbers_44 N a1 a2 a3 x1 x2 x3 x4 kx44 n x38 x39 1 x53 M45)))))) else (jL (jW (x8 + 1)) (fun x54 => (lp_L_numbers_44 N a1 a2 a3 x1 x2 x3 x4 kx44 n x38 x39 1 x54 M45)))) else (jL (jW (x8 + 1)) (fun x55 => (lp_L_numbers_44 N a1 a2 a3 x1 x2 x3 x4 kx44 n x38 x39 0 x55 M45)))))) else (if x1 = 4 then (w_X6_values N M42 a1 a2 x3 (fun x56 => (if x8 < x56 then (w_X6_numberAt N M42 a1 a2 a3 x8 (fun x57 M58 => (w_X6_get N M58 a1 a2 x2 x8 0 (fun x59 => (w_X6_get N M58 a1 a2 x3 x8 0 (fun x60 => (if x57 = (jW (x59 * x60)) then (jL (jW (x8 + 1)) (fun x61 => (lp_L_numbers_44 N a1 a2 a3 x1 x2 x3 x4 kx44 n x38 x39 1 x61 M58))) else (jL (jW (x8 + 1)) (fun x62 => (lp_L_numbers_44 N a1 a2 a3 x1 x2 x3 x4 kx44 n x38 x39 0 x62 M58)))))))))) else (jL (jW (x8 + 1)) (fun x63 => (lp_L_numbers_44 N a1 a2 a3 x1 x2 x3 x4 kx44 n x38 x39 1 x63 M42)))))) else (jL (jW (x8 + 1)) (fun x64 => (lp_L_numbers_44 N a1 a2 a3 x1 x2 x3 x4 kx44 n x38 x39 1 x64 M42))))))) N x5 x6 x7 (-1000) 0 M9)) else (kx44 x5 x6 x7 M9))
def w_L_numbers (N : Nat) (M : jM) (a1 : Int) (a2 : Int) (a3 : Int) (k : Int → jM → Prop) : Prop := (w_X6_column M a1 a3 0 (fun x1 => (w_X6_column M a1 a3 1 (fun x2 => (w_X6_column M a1 a3 2 (fun x3 => (w_X6_values N M a1 a2 x2 (fun x4 => (lp_L_numbers_44 N a1 a2 a3 x1 x2 x3 x4 (fun (x10 : Int) (x11 : Int) (x12 : Int) (M13 : jM) => (jL (fun (x14 : Int) => (jL (fun (x16 : Int) => (if x12 = 0 then (k 0 M13) else (w_X6_numbers N M13 a1 a2 a3 (fun x18 M19 => (if x18 = x16 then (w_X6_numberAt N M19 a1 a2 a3 x16 (fun x20 M21 => (if x20 = (-1000007) then (w_X6_numberAt N M21 a1 a2 a3 (-1) (fun x22 M23 => (if x22 = (-1000002) then (if x1 = 1 then (w_X6_numberAt N M23 a1 a2 a3 0 (fun x24 M25 => (if x24 = x4 then (if x1 = 2 then (w_X6_numberAt N M25 a1 a2 a3 0 (fun x26 M27 => (if x26 = x11 then (k 1 M27) else (k 0 M27)))) else (k 1 M25)) else (k 0 M25)))) else (if x1 = 2 then (w_X6_numberAt N M23 a1 a2 a3 0 (fun x28 M29 => (if x28 = x11 then (k 1 M29) else (k 0 M29)))) else (k 1 M23))) else (k 0 M23)))) else (k 0 M21)))) else (k 0 M19)))))) (fun j280_17 => (if x1 = 0 then (j280_17 x10) else (if x1 < 3 then (j280_17 1) else (j280_17 x14)))))) (fun j250_15 => (if x1 = 4 then (w_X6_values N M13 a1 a2 x3 (fun x30 => (if x30 < x4 then (w_X6_values N M13 a1 a2 x3 (fun x31 => (j250_15 x31))) else (j250_15 x4)))) else (j250_15 x4))))) N 0 0 1 0 M)))))))))
set_option maxHeartbeats 4000000 in
set_option maxRecDepth 100000 in
theorem m_L_numbers {l : Launch} {G : jG} {N : Nat} {M : jM} {a1 a2 a3 : Int} {k : Int → jM → Prop} (o_M : jOK M) (k_a1 : jK a1 = 7) (r_a2 : jR a2) (r_a3 : jR a3) (h : w_L_numbers N M a1 a2 a3 k) : Met l yL_numbers (wsG yL_numbers cL_numbers 14 (some .boolean)) (rmm 5 117) (jPc G M [.ref (jD G a1), .int (jI a2), .int (jI a3)]) (qZ G k) 0 0 (gA G) := by
  refine jm_start RL rfl (by decide) (Nat.le_of_ble_eq_true rfl) o_M ?_
  intro p e s m args below meth c ls C hr hlocks hl B
  have hl : lv_has ls 14 [(0, .ref (jD G a1)), (1, .int (jI a2)), (2, .int (jI a3))] := hl
  unfold w_L_numbers at h
  refine lv_aload_n C.1 C.2.1 dL_numbers_0 rfl (lv_at hl 0 rfl) ?_
  refine lv_iload_n C.1 C.2.1 dL_numbers_1 rfl (lv_at hl 2 rfl) ?_
  refine jr_iconst C dL_numbers_2 ?_
  refine cl_X6_column C hl.1 B q_229 ⟨Nat.le_of_ble_eq_true rfl, Nat.le_of_ble_eq_true rfl⟩ ⟨Nat.zero_le _, Nat.zero_le _⟩ (Nat.le_of_ble_eq_true rfl) k_a1 r_a3 (jkc rfl) h dL_numbers_3 (fun x1 r_x1 _ _ h B => ?_)
  refine lv_istore_n (lv' := [(3, .int (jI x1)), (0, .ref (jD G a1)), (1, .int (jI a2)), (2, .int (jI a3))]) C.1 C.2.1 dL_numbers_6 rfl hl (by decide) rfl (fun ls hl => ?_)
  refine lv_aload_n C.1 C.2.1 dL_numbers_7 rfl (lv_at hl 1 rfl) ?_
  refine lv_iload_n C.1 C.2.1 dL_numbers_8 rfl (lv_at hl 3 rfl) ?_
  refine jr_iconst C dL_numbers_9 ?_
  refine cl_X6_column C hl.1 B q_229 ⟨Nat.le_of_ble_eq_true rfl, Nat.le_of_ble_eq_true rfl⟩ ⟨Nat.zero_le _, Nat.zero_le _⟩ (Nat.le_of_ble_eq_true rfl) k_a1 r_a3 (jkc rfl) h dL_numbers_10 (fun x2 r_x2 _ _ h B => ?_)
  refine lv_istore (lv' := [(4, .int (jI x2)), (3, .int (jI x1)), (0, .ref (jD G a1)), (1, .int (jI a2)), (2, .int (jI a3))]) C.1 C.2.1 dL_numbers_13 hl (by decide) rfl (fun ls hl => ?_)
  refine lv_aload_n C.1 C.2.1 dL_numbers_15 rfl (lv_at hl 2 rfl) ?_
  refine lv_iload_n C.1 C.2.1 dL_numbers_16 rfl (lv_at hl 4 rfl) ?_
  refine jr_iconst C dL_numbers_17 ?_
  refine cl_X6_column C hl.1 B q_229 ⟨Nat.le_of_ble_eq_true rfl, Nat.le_of_ble_eq_true rfl⟩ ⟨Nat.zero_le _, Nat.zero_le _⟩ (Nat.le_of_ble_eq_true rfl) k_a1 r_a3 (jkc rfl) h dL_numbers_18 (fun x3 r_x3 _ _ h B => ?_)
  refine lv_istore (lv' := [(5, .int (jI x3)), (4, .int (jI x2)), (3, .int (jI x1)), (0, .ref (jD G a1)), (1, .int (jI a2)), (2, .int (jI a3))]) C.1 C.2.1 dL_numbers_21 hl (by decide) rfl (fun ls hl => ?_)
  refine lv_aload_n C.1 C.2.1 dL_numbers_23 rfl (lv_at hl 3 rfl) ?_
  refine lv_iload_n C.1 C.2.1 dL_numbers_24 rfl (lv_at hl 4 rfl) ?_
  refine lv_iload C.1 C.2.1 dL_numbers_25 (lv_at hl 1 rfl) ?_
  refine cl_X6_values C hl.1 B q_275 ⟨Nat.le_of_ble_eq_true rfl, Nat.le_of_ble_eq_true rfl⟩ ⟨Nat.zero_le _, Nat.zero_le _⟩ (Nat.le_of_ble_eq_true rfl) k_a1 r_a2 r_x2 h dL_numbers_27 (fun x4 r_x4 _ _ h B => ?_)
  refine lv_istore (lv' := [(6, .int (jI x4)), (5, .int (jI x3)), (4, .int (jI x2)), (3, .int (jI x1)), (0, .ref (jD G a1)), (1, .int (jI a2)), (2, .int (jI a3))]) C.1 C.2.1 dL_numbers_30 hl (by decide) rfl (fun ls hl => ?_)
  refine jr_iconst C dL_numbers_32 ?_
  refine lv_istore (lv' := [(7, .int (jI 0)), (6, .int (jI x4)), (5, .int (jI x3)), (4, .int (jI x2)), (3, .int (jI x1)), (0, .ref (jD G a1)), (1, .int (jI a2)), (2, .int (jI a3))]) C.1 C.2.1 dL_numbers_33 hl (by decide) rfl (fun ls hl => ?_)
  refine jr_iconst C dL_numbers_35 ?_
  refine lv_istore (lv' := [(8, .int (jI 0)), (7, .int (jI 0)), (6, .int (jI x4)), (5, .int (jI x3)), (4, .int (jI x2)), (3, .int (jI x1)), (0, .ref (jD G a1)), (1, .int (jI a2)), (2, .int (jI a3))]) C.1 C.2.1 dL_numbers_36 hl (by decide) rfl (fun ls hl => ?_)
  refine jr_iconst C dL_numbers_38 ?_
  refine lv_istore (lv' := [(9, .int (jI 1)), (8, .int (jI 0)), (7, .int (jI 0)), (6, .int (jI x4)), (5, .int (jI x3)), (4, .int (jI x2)), (3, .int (jI x1)), (0, .ref (jD G a1)), (1, .int (jI a2)), (2, .int (jI a3))]) C.1 C.2.1 dL_numbers_39 hl (by decide) rfl (fun ls hl => ?_)
  refine jr_iconst C dL_numbers_41 ?_
  refine lv_istore (lv' := [(10, .int (jI 0)), (9, .int (jI 1)), (8, .int (jI 0)), (7, .int (jI 0)), (6, .int (jI x4)), (5, .int (jI x3)), (4, .int (jI x2)), (3, .int (jI x1)), (0, .ref (jD G a1)), (1, .int (jI a2)), (2, .int (jI a3))]) C.1 C.2.1 dL_numbers_42 hl (by decide) rfl (fun ls hl => ?_)
  obtain ⟨kx44, hkx44, h⟩ : ∃ kx44 : Int → Int → Int → jM → Prop, (∀ (x10 : Int) (x11 : Int) (x12 : Int) (M13 : jM) (H : Heap) (locs : List Loc) (ls : Array Slot), kx44 x10 x11 x12 M13 → jR x10 → jR x11 → (x12 = 0 ∨ x12 = 1) → Hp G M13 s.heap H locs → lv_has ls 14 [(7, .int (jI x10)), (8, .int (jI x11)), (9, .int (jI x12)), (6, .int (jI x4)), (5, .int (jI x3)), (3, .int (jI x1)), (0, .ref (jD G a1)), (1, .int (jI a2)), (2, .int (jI a3))] → W p l e (rmm 5 117) s m args below meth c H locs 0 0 (MQ below (qZ G k) args s 0 0 (gA G)) (F0 m 248 ls [])) ∧ lp_L_numbers_44 N a1 a2 a3 x1 x2 x3 x4 kx44 N 0 0 1 0 M := by
    refine ⟨_, ?_, h⟩
    intro x10 x11 x12 M13 H locs ls h r_x10 r_x11 z_x12 B hl
    have o_M13 := B.2.2
    refine lv_iload_n C.1 C.2.1 dL_numbers_248 rfl (lv_at hl 5 rfl) ?_
    refine jr_iconst C dL_numbers_249 ?_
    obtain ⟨j250_15, hj250_15, h⟩ := jx_join (P := fun j250_15 : Int → Prop => ∀ (x14 : Int) (H : Heap) (locs : List Loc) (ls : Array Slot), j250_15 x14 → jR x14 → Hp G M13 s.heap H locs → lv_has ls 14 [(7, .int (jI x10)), (8, .int (jI x11)), (9, .int (jI x12)), (6, .int (jI x4)), (3, .int (jI x1)), (0, .ref (jD G a1)), (1, .int (jI a2)), (2, .int (jI a3))] → W p l e (rmm 5 117) s m args below meth c H locs 0 0 (MQ below (qZ G k) args s 0 0 (gA G)) (F0 m 277 ls [.int (jI x14)])) h (by
      intro x14 H locs ls h r_x14 B hl
      refine lv_istore (lv' := [(10, .int (jI x14)), (7, .int (jI x10)), (8, .int (jI x11)), (9, .int (jI x12)), (6, .int (jI x4)), (3, .int (jI x1)), (0, .ref (jD G a1)), (1, .int (jI a2)), (2, .int (jI a3))]) C.1 C.2.1 dL_numbers_277 hl (by decide) rfl (fun ls hl => ?_)
      refine lv_iload_n C.1 C.2.1 dL_numbers_279 rfl (lv_at hl 5 rfl) ?_
      obtain ⟨j280_17, hj280_17, h⟩ := jx_join (P := fun j280_17 : Int → Prop => ∀ (x16 : Int) (H : Heap) (locs : List Loc) (ls : Array Slot), j280_17 x16 → jR x16 → Hp G M13 s.heap H locs → lv_has ls 14 [(8, .int (jI x11)), (9, .int (jI x12)), (6, .int (jI x4)), (3, .int (jI x1)), (0, .ref (jD G a1)), (1, .int (jI a2)), (2, .int (jI a3))] → W p l e (rmm 5 117) s m args below meth c H locs 0 0 (MQ below (qZ G k) args s 0 0 (gA G)) (F0 m 299 ls [.int (jI x16)])) h (by
        intro x16 H locs ls h r_x16 B hl
        refine lv_istore (lv' := [(11, .int (jI x16)), (8, .int (jI x11)), (9, .int (jI x12)), (6, .int (jI x4)), (3, .int (jI x1)), (0, .ref (jD G a1)), (1, .int (jI a2)), (2, .int (jI a3))]) C.1 C.2.1 dL_numbers_299 hl (by decide) rfl (fun ls hl => ?_)
        refine lv_iload C.1 C.2.1 dL_numbers_301 (lv_at hl 2 rfl) ?_
        refine jr_if_eq (tgt := 380) C (zR z_x12) h dL_numbers_303 (by decide) (fun hc303 h => ?_) (fun hc303 h => ?_)
        · refine jr_iconst C dL_numbers_380 ?_
          exact jr_zret C B hr hlocks (Or.inl rfl) h dL_numbers_381
        · refine lv_aload_n C.1 C.2.1 dL_numbers_306 rfl (lv_at hl 5 rfl) ?_
          refine lv_iload_n C.1 C.2.1 dL_numbers_307 rfl (lv_at hl 6 rfl) ?_
          refine lv_iload_n C.1 C.2.1 dL_numbers_308 rfl (lv_at hl 7 rfl) ?_
          refine cl_X6_numbers C hl.1 B q_382 ⟨Nat.le_of_ble_eq_true rfl, Nat.le_of_ble_eq_true rfl⟩ ⟨Nat.zero_le _, Nat.zero_le _⟩ (Nat.le_of_ble_eq_true rfl) k_a1 r_a2 r_a3 h dL_numbers_309 (fun x18 M19 r_x18 _ _ h B => ?_)
          have o_M19 := B.2.2
          refine lv_iload C.1 C.2.1 dL_numbers_312 (lv_at hl 0 rfl) ?_
          refine jr_icmp_ne (tgt := 380) C r_x18 r_x16 h dL_numbers_314 (by decide) (fun hc314 h => ?_) (fun hc314 h => ?_)
          · refine lv_aload_n C.1 C.2.1 dL_numbers_317 rfl (lv_at hl 5 rfl) ?_
            refine lv_iload_n C.1 C.2.1 dL_numbers_318 rfl (lv_at hl 6 rfl) ?_
            refine lv_iload_n C.1 C.2.1 dL_numbers_319 rfl (lv_at hl 7 rfl) ?_
            refine lv_iload C.1 C.2.1 dL_numbers_320 (lv_at hl 0 rfl) ?_
            refine cl_X6_numberAt C hl.1 B q_338 ⟨Nat.le_of_ble_eq_true rfl, Nat.le_of_ble_eq_true rfl⟩ ⟨Nat.zero_le _, Nat.zero_le _⟩ (Nat.le_of_ble_eq_true rfl) k_a1 r_a2 r_a3 r_x16 h dL_numbers_322 (fun x20 M21 r_x20 _ _ h B => ?_)
            have o_M21 := B.2.2
            refine jr_ldc (n := -1000007) C q_313 (by decide) dL_numbers_325 ?_
            refine jr_icmp_ne (tgt := 380) C r_x20 (jkc rfl) h dL_numbers_327 (by decide) (fun hc327 h => ?_) (fun hc327 h => ?_)
            · refine lv_aload_n C.1 C.2.1 dL_numbers_330 rfl (lv_at hl 5 rfl) ?_
              refine lv_iload_n C.1 C.2.1 dL_numbers_331 rfl (lv_at hl 6 rfl) ?_
              refine lv_iload_n C.1 C.2.1 dL_numbers_332 rfl (lv_at hl 7 rfl) ?_
              refine jr_iconst C dL_numbers_333 ?_
              refine cl_X6_numberAt C hl.1 B q_338 ⟨Nat.le_of_ble_eq_true rfl, Nat.le_of_ble_eq_true rfl⟩ ⟨Nat.zero_le _, Nat.zero_le _⟩ (Nat.le_of_ble_eq_true rfl) k_a1 r_a2 r_a3 (jkc rfl) h dL_numbers_334 (fun x22 M23 r_x22 _ _ h B => ?_)
              have o_M23 := B.2.2
              refine jr_ldc (n := -1000002) C q_314 (by decide) dL_numbers_337 ?_
              refine jr_icmp_ne (tgt := 380) C r_x22 (jkc rfl) h dL_numbers_339 (by decide) (fun hc339 h => ?_) (fun hc339 h => ?_)
              · refine lv_iload_n C.1 C.2.1 dL_numbers_342 rfl (lv_at hl 4 rfl) ?_
                refine jr_iconst C dL_numbers_343 ?_
                refine jr_icmp_ne (tgt := 359) C r_x1 (jkc rfl) h dL_numbers_344 (by decide) (fun hc344 h => ?_) (fun hc344 h => ?_)
                · refine lv_aload_n C.1 C.2.1 dL_numbers_347 rfl (lv_at hl 5 rfl) ?_
                  refine lv_iload_n C.1 C.2.1 dL_numbers_348 rfl (lv_at hl 6 rfl) ?_
                  refine lv_iload_n C.1 C.2.1 dL_numbers_349 rfl (lv_at hl 7 rfl) ?_
                  refine jr_iconst C dL_numbers_350 ?_
                  refine cl_X6_numberAt C hl.1 B q_338 ⟨Nat.le_of_ble_eq_true rfl, Nat.le_of_ble_eq_true rfl⟩ ⟨Nat.zero_le _, Nat.zero_le _⟩ (Nat.le_of_ble_eq_true rfl) k_a1 r_a2 r_a3 (jkc rfl) h dL_numbers_351 (fun x24 M25 r_x24 _ _ h B => ?_)
                  have o_M25 := B.2.2
                  refine lv_iload C.1 C.2.1 dL_numbers_354 (lv_at hl 3 rfl) ?_
                  refine jr_icmp_ne (tgt := 380) C r_x24 r_x4 h dL_numbers_356 (by decide) (fun hc356 h => ?_) (fun hc356 h => ?_)
                  · refine lv_iload_n C.1 C.2.1 dL_numbers_359 rfl (lv_at hl 4 rfl) ?_
                    refine jr_iconst C dL_numbers_360 ?_
                    refine jr_icmp_ne (tgt := 376) C r_x1 (jkc rfl) h dL_numbers_361 (by decide) (fun hc361 h => ?_) (fun hc361 h => ?_)
                    · refine lv_aload_n C.1 C.2.1 dL_numbers_364 rfl (lv_at hl 5 rfl) ?_
                      refine lv_iload_n C.1 C.2.1 dL_numbers_365 rfl (lv_at hl 6 rfl) ?_
                      refine lv_iload_n C.1 C.2.1 dL_numbers_366 rfl (lv_at hl 7 rfl) ?_
                      refine jr_iconst C dL_numbers_367 ?_
                      refine cl_X6_numberAt C hl.1 B q_338 ⟨Nat.le_of_ble_eq_true rfl, Nat.le_of_ble_eq_true rfl⟩ ⟨Nat.zero_le _, Nat.zero_le _⟩ (Nat.le_of_ble_eq_true rfl) k_a1 r_a2 r_a3 (jkc rfl) h dL_numbers_368 (fun x26 M27 r_x26 _ _ h B => ?_)
                      have o_M27 := B.2.2
                      refine lv_iload C.1 C.2.1 dL_numbers_371 (lv_at hl 1 rfl) ?_
                      refine jr_icmp_ne (tgt := 380) C r_x26 r_x11 h dL_numbers_373 (by decide) (fun hc373 h => ?_) (fun hc373 h => ?_)
                      · refine jr_iconst C dL_numbers_376 ?_
                        refine lv_goto (tgt := 381) C.1 C.2.1 dL_numbers_377 (by decide) ?_
                        exact jr_zret C B hr hlocks (Or.inr rfl) h dL_numbers_381
                      · refine jr_iconst C dL_numbers_380 ?_
                        exact jr_zret C B hr hlocks (Or.inl rfl) h dL_numbers_381
                    · refine jr_iconst C dL_numbers_376 ?_
                      refine lv_goto (tgt := 381) C.1 C.2.1 dL_numbers_377 (by decide) ?_
                      exact jr_zret C B hr hlocks (Or.inr rfl) h dL_numbers_381
                  · refine jr_iconst C dL_numbers_380 ?_
                    exact jr_zret C B hr hlocks (Or.inl rfl) h dL_numbers_381
                · refine lv_iload_n C.1 C.2.1 dL_numbers_359 rfl (lv_at hl 4 rfl) ?_
                  refine jr_iconst C dL_numbers_360 ?_
                  refine jr_icmp_ne (tgt := 376) C r_x1 (jkc rfl) h dL_numbers_361 (by decide) (fun hc361 h => ?_) (fun hc361 h => ?_)
                  · refine lv_aload_n C.1 C.2.1 dL_numbers_364 rfl (lv_at hl 5 rfl) ?_
                    refine lv_iload_n C.1 C.2.1 dL_numbers_365 rfl (lv_at hl 6 rfl) ?_
                    refine lv_iload_n C.1 C.2.1 dL_numbers_366 rfl (lv_at hl 7 rfl) ?_
                    refine jr_iconst C dL_numbers_367 ?_
                    refine cl_X6_numberAt C hl.1 B q_338 ⟨Nat.le_of_ble_eq_true rfl, Nat.le_of_ble_eq_true rfl⟩ ⟨Nat.zero_le _, Nat.zero_le _⟩ (Nat.le_of_ble_eq_true rfl) k_a1 r_a2 r_a3 (jkc rfl) h dL_numbers_368 (fun x28 M29 r_x28 _ _ h B => ?_)
                    have o_M29 := B.2.2
                    refine lv_iload C.1 C.2.1 dL_numbers_371 (lv_at hl 1 rfl) ?_
                    refine jr_icmp_ne (tgt := 380) C r_x28 r_x11 h dL_numbers_373 (by decide) (fun hc373 h => ?_) (fun hc373 h => ?_)
                    · refine jr_iconst C dL_numbers_376 ?_
                      refine lv_goto (tgt := 381) C.1 C.2.1 dL_numbers_377 (by decide) ?_
                      exact jr_zret C B hr hlocks (Or.inr rfl) h dL_numbers_381
                    · refine jr_iconst C dL_numbers_380 ?_
                      exact jr_zret C B hr hlocks (Or.inl rfl) h dL_numbers_381
                  · refine jr_iconst C dL_numbers_376 ?_
                    refine lv_goto (tgt := 381) C.1 C.2.1 dL_numbers_377 (by decide) ?_
                    exact jr_zret C B hr hlocks (Or.inr rfl) h dL_numbers_381
              · refine jr_iconst C dL_numbers_380 ?_
                exact jr_zret C B hr hlocks (Or.inl rfl) h dL_numbers_381
            · refine jr_iconst C dL_numbers_380 ?_
              exact jr_zret C B hr hlocks (Or.inl rfl) h dL_numbers_381
          · refine jr_iconst C dL_numbers_380 ?_
            exact jr_zret C B hr hlocks (Or.inl rfl) h dL_numbers_381)
      refine jr_if_ne (tgt := 288) C r_x1 h dL_numbers_280 (by decide) (fun hc280 h => ?_) (fun hc280 h => ?_)
      · refine lv_iload C.1 C.2.1 dL_numbers_283 (lv_at hl 1 rfl) ?_
        refine lv_goto (tgt := 299) C.1 C.2.1 dL_numbers_285 (by decide) ?_
        exact hj280_17 _ _ _ _ h r_x10 B (lv_sub hl [2, 3, 4, 5, 6, 7, 8] rfl)
      · refine lv_iload_n C.1 C.2.1 dL_numbers_288 rfl (lv_at hl 5 rfl) ?_
        refine jr_iconst C dL_numbers_289 ?_
        refine jr_icmp_ge (tgt := 297) C r_x1 (jkc rfl) h dL_numbers_290 (by decide) (fun hc290 h => ?_) (fun hc290 h => ?_)
        · refine jr_iconst C dL_numbers_293 ?_
          refine lv_goto (tgt := 299) C.1 C.2.1 dL_numbers_294 (by decide) ?_
          exact hj280_17 _ _ _ _ h (jkc rfl) B (lv_sub hl [2, 3, 4, 5, 6, 7, 8] rfl)
        · refine lv_iload C.1 C.2.1 dL_numbers_297 (lv_at hl 0 rfl) ?_
          exact hj280_17 _ _ _ _ h r_x14 B (lv_sub hl [2, 3, 4, 5, 6, 7, 8] rfl))
    refine jr_icmp_ne (tgt := 275) C r_x1 (jkc rfl) h dL_numbers_250 (by decide) (fun hc250 h => ?_) (fun hc250 h => ?_)
    · refine lv_aload_n C.1 C.2.1 dL_numbers_253 rfl (lv_at hl 6 rfl) ?_
      refine lv_iload_n C.1 C.2.1 dL_numbers_254 rfl (lv_at hl 7 rfl) ?_
      refine lv_iload C.1 C.2.1 dL_numbers_255 (lv_at hl 4 rfl) ?_
      refine cl_X6_values C hl.1 B q_275 ⟨Nat.le_of_ble_eq_true rfl, Nat.le_of_ble_eq_true rfl⟩ ⟨Nat.zero_le _, Nat.zero_le _⟩ (Nat.le_of_ble_eq_true rfl) k_a1 r_a2 r_x3 h dL_numbers_257 (fun x30 r_x30 _ _ h B => ?_)
      refine lv_iload C.1 C.2.1 dL_numbers_260 (lv_at hl 3 rfl) ?_
      refine jr_icmp_ge (tgt := 275) C r_x30 r_x4 h dL_numbers_262 (by decide) (fun hc262 h => ?_) (fun hc262 h => ?_)
      · refine lv_aload_n C.1 C.2.1 dL_numbers_265 rfl (lv_at hl 6 rfl) ?_
        refine lv_iload_n C.1 C.2.1 dL_numbers_266 rfl (lv_at hl 7 rfl) ?_
        refine lv_iload C.1 C.2.1 dL_numbers_267 (lv_at hl 4 rfl) ?_
        refine cl_X6_values C hl.1 B q_275 ⟨Nat.le_of_ble_eq_true rfl, Nat.le_of_ble_eq_true rfl⟩ ⟨Nat.zero_le _, Nat.zero_le _⟩ (Nat.le_of_ble_eq_true rfl) k_a1 r_a2 r_x3 h dL_numbers_269 (fun x31 r_x31 _ _ h B => ?_)
        refine lv_goto (tgt := 277) C.1 C.2.1 dL_numbers_272 (by decide) ?_
        exact hj250_15 _ _ _ _ h r_x31 B (lv_sub hl [0, 1, 2, 3, 5, 6, 7, 8] rfl)
      · refine lv_iload C.1 C.2.1 dL_numbers_275 (lv_at hl 3 rfl) ?_
        exact hj250_15 _ _ _ _ h r_x4 B (lv_sub hl [0, 1, 2, 3, 5, 6, 7, 8] rfl)
    · refine lv_iload C.1 C.2.1 dL_numbers_275 (lv_at hl 3 rfl) ?_
      exact hj250_15 _ _ _ _ h r_x4 B (lv_sub hl [0, 1, 2, 3, 5, 6, 7, 8] rfl)
  have hL44 : ∀ (n : Nat) (x5 : Int) (x6 : Int) (x7 : Int) (x8 : Int) (M9 : jM) (H : Heap) (locs : List Loc) (ls : Array Slot), lp_L_numbers_44 N a1 a2 a3 x1 x2 x3 x4 kx44 n x5 x6 x7 x8 M9 → jR x5 → jR x6 → (x7 = 0 ∨ x7 = 1) → jR x8 → Hp G M9 s.heap H locs → lv_has ls 14 [(7, .int (jI x5)), (8, .int (jI x6)), (9, .int (jI x7)), (10, .int (jI x8)), (6, .int (jI x4)), (5, .int (jI x3)), (4, .int (jI x2)), (3, .int (jI x1)), (0, .ref (jD G a1)), (1, .int (jI a2)), (2, .int (jI a3))] → W p l e (rmm 5 117) s m args below meth c H locs 0 0 (MQ below (qZ G k) args s 0 0 (gA G)) (F0 m 44 ls []) := by
    intro n
    induction n with
    | zero => intro x5 x6 x7 x8 M9 H locs ls h; exact (show False from h).elim
    | succ n ih44 =>
      intro x5 x6 x7 x8 M9 H locs ls h r_x5 r_x6 z_x7 r_x8 B hl
      have o_M9 := B.2.2
      rw [lp_L_numbers_44] at h
      refine lv_iload C.1 C.2.1 dL_numbers_44 (lv_at hl 3 rfl) ?_
      refine lv_iload C.1 C.2.1 dL_numbers_46 (lv_at hl 4 rfl) ?_
      refine jr_icmp_ge (tgt := 248) C r_x8 r_x4 h dL_numbers_48 (by decide) (fun hc48 h => ?_) (fun hc48 h => ?_)
      · refine lv_iload C.1 C.2.1 dL_numbers_51 (lv_at hl 2 rfl) ?_
        refine jr_if_eq (tgt := 248) C (zR z_x7) h dL_numbers_53 (by decide) (fun hc53 h => ?_) (fun hc53 h => ?_)
        · exact hkx44 _ _ _ _ _ _ _ h r_x5 r_x6 z_x7 B (lv_sub hl [0, 1, 2, 4, 5, 7, 8, 9, 10] rfl)
        · refine jr_sipush C dL_numbers_56 (by decide) ?_
          refine lv_istore (lv' := [(11, .int (jI (-1000))), (7, .int (jI x5)), (8, .int (jI x6)), (9, .int (jI x7)), (10, .int (jI x8)), (6, .int (jI x4)), (5, .int (jI x3)), (4, .int (jI x2)), (3, .int (jI x1)), (0, .ref (jD G a1)), (1, .int (jI a2)), (2, .int (jI a3))]) C.1 C.2.1 dL_numbers_59 hl (by decide) rfl (fun ls hl => ?_)
          refine jr_iconst C dL_numbers_61 ?_
          refine lv_istore (lv' := [(12, .int (jI 0)), (11, .int (jI (-1000))), (7, .int (jI x5)), (8, .int (jI x6)), (9, .int (jI x7)), (10, .int (jI x8)), (6, .int (jI x4)), (5, .int (jI x3)), (4, .int (jI x2)), (3, .int (jI x1)), (0, .ref (jD G a1)), (1, .int (jI a2)), (2, .int (jI a3))]) C.1 C.2.1 dL_numbers_62 hl (by decide) rfl (fun ls hl => ?_)
          obtain ⟨kx64, hkx64, h⟩ : ∃ kx64 : Int → Int → Int → Int → jM → Prop, (∀ (x38 : Int) (x39 : Int) (x40 : Int) (x41 : Int) (M42 : jM) (H : Heap) (locs : List Loc) (ls : Array Slot), kx64 x38 x39 x40 x41 M42 → jR x38 → jR x39 → (x40 = 0 ∨ x40 = 1) → jR x41 → Hp G M42 s.heap H locs → lv_has ls 14 [(7, .int (jI x38)), (8, .int (jI x39)), (9, .int (jI x40)), (11, .int (jI x41)), (10, .int (jI x8)), (6, .int (jI x4)), (5, .int (jI x3)), (4, .int (jI x2)), (3, .int (jI x1)), (0, .ref (jD G a1)), (1, .int (jI a2)), (2, .int (jI a3))] → W p l e (rmm 5 117) s m args below meth c H locs 0 0 (MQ below (qZ G k) args s 0 0 (gA G)) (F0 m 163 ls [])) ∧ lp_L_numbers_64 N a1 a2 a3 x1 x2 x8 kx64 N x5 x6 x7 (-1000) 0 M9 := by
            refine ⟨_, ?_, h⟩
            intro x38 x39 x40 x41 M42 H locs ls h r_x38 r_x39 z_x40 r_x41 B hl
            have o_M42 := B.2.2
            refine lv_iload C.1 C.2.1 dL_numbers_163 (lv_at hl 2 rfl) ?_
            refine jr_if_eq (tgt := 239) C (zR z_x40) h dL_numbers_165 (by decide) (fun hc165 h => ?_) (fun hc165 h => ?_)
            · refine jr_iconst C dL_numbers_239 ?_
              refine lv_istore (lv' := [(9, .int (jI 0)), (7, .int (jI x38)), (8, .int (jI x39)), (11, .int (jI x41)), (10, .int (jI x8)), (6, .int (jI x4)), (5, .int (jI x3)), (4, .int (jI x2)), (3, .int (jI x1)), (0, .ref (jD G a1)), (1, .int (jI a2)), (2, .int (jI a3))]) C.1 C.2.1 dL_numbers_240 hl (by decide) rfl (fun ls hl => ?_)
              refine jr_iinc (k := 4) (lv' := fun x43 => [(10, .int (jI x43)), (9, .int (jI 0)), (7, .int (jI x38)), (8, .int (jI x39)), (11, .int (jI x41)), (6, .int (jI x4)), (5, .int (jI x3)), (4, .int (jI x2)), (3, .int (jI x1)), (0, .ref (jD G a1)), (1, .int (jI a2)), (2, .int (jI a3))]) C h hl rfl (by decide) (fun _ => rfl) dL_numbers_242 (fun x43 h r_x43 ls hl => ?_)
              refine lv_goto (tgt := 44) C.1 C.2.1 dL_numbers_245 (by decide) ?_
              exact ih44 _ _ _ _ _ _ _ _ h r_x38 r_x39 (Or.inl rfl) r_x43 B (lv_sub hl [2, 3, 1, 0, 5, 6, 7, 8, 9, 10, 11] rfl)
            · refine lv_iload_n C.1 C.2.1 dL_numbers_168 rfl (lv_at hl 8 rfl) ?_
              refine jr_iconst C dL_numbers_169 ?_
              refine jr_icmp_ne (tgt := 186) C r_x1 (jkc rfl) h dL_numbers_170 (by decide) (fun hc170 h => ?_) (fun hc170 h => ?_)
              · refine lv_aload_n C.1 C.2.1 dL_numbers_173 rfl (lv_at hl 9 rfl) ?_
                refine lv_iload_n C.1 C.2.1 dL_numbers_174 rfl (lv_at hl 10 rfl) ?_
                refine lv_iload_n C.1 C.2.1 dL_numbers_175 rfl (lv_at hl 11 rfl) ?_
                refine lv_iload C.1 C.2.1 dL_numbers_176 (lv_at hl 4 rfl) ?_
                refine cl_X6_numberAt C hl.1 B q_338 ⟨Nat.le_of_ble_eq_true rfl, Nat.le_of_ble_eq_true rfl⟩ ⟨Nat.zero_le _, Nat.zero_le _⟩ (Nat.le_of_ble_eq_true rfl) k_a1 r_a2 r_a3 r_x8 h dL_numbers_178 (fun x44 M45 r_x44 _ _ h B => ?_)
                have o_M45 := B.2.2
                refine lv_iload C.1 C.2.1 dL_numbers_181 (lv_at hl 3 rfl) ?_
                refine jr_icmp_ne (tgt := 239) C r_x44 r_x41 h dL_numbers_183 (by decide) (fun hc183 h => ?_) (fun hc183 h => ?_)
                · refine lv_iload_n C.1 C.2.1 dL_numbers_186 rfl (lv_at hl 8 rfl) ?_
                  refine jr_iconst C dL_numbers_187 ?_
                  refine jr_icmp_ne (tgt := 235) C r_x1 (jkc rfl) h dL_numbers_188 (by decide) (fun hc188 h => ?_) (fun hc188 h => ?_)
                  · refine lv_iload C.1 C.2.1 dL_numbers_191 (lv_at hl 4 rfl) ?_
                    refine lv_aload_n C.1 C.2.1 dL_numbers_193 rfl (lv_at hl 9 rfl) ?_
                    refine lv_iload_n C.1 C.2.1 dL_numbers_194 rfl (lv_at hl 10 rfl) ?_
                    refine lv_iload C.1 C.2.1 dL_numbers_195 (lv_at hl 6 rfl) ?_
                    refine cl_X6_values C hl.1 B q_275 ⟨Nat.le_of_ble_eq_true rfl, Nat.le_of_ble_eq_true rfl⟩ ⟨Nat.zero_le _, Nat.zero_le _⟩ (Nat.le_of_ble_eq_true rfl) k_a1 r_a2 r_x3 h dL_numbers_197 (fun x46 r_x46 _ _ h B => ?_)
                    refine jr_icmp_ge (tgt := 235) C r_x8 r_x46 h dL_numbers_200 (by decide) (fun hc200 h => ?_) (fun hc200 h => ?_)
                    · refine lv_aload_n C.1 C.2.1 dL_numbers_203 rfl (lv_at hl 9 rfl) ?_
                      refine lv_iload_n C.1 C.2.1 dL_numbers_204 rfl (lv_at hl 10 rfl) ?_
                      refine lv_iload_n C.1 C.2.1 dL_numbers_205 rfl (lv_at hl 11 rfl) ?_
                      refine lv_iload C.1 C.2.1 dL_numbers_206 (lv_at hl 4 rfl) ?_
                      refine cl_X6_numberAt C hl.1 B q_338 ⟨Nat.le_of_ble_eq_true rfl, Nat.le_of_ble_eq_true rfl⟩ ⟨Nat.zero_le _, Nat.zero_le _⟩ (Nat.le_of_ble_eq_true rfl) k_a1 r_a2 r_a3 r_x8 h dL_numbers_208 (fun x47 M48 r_x47 _ _ h B => ?_)
                      have o_M48 := B.2.2
                      refine lv_aload_n C.1 C.2.1 dL_numbers_211 rfl (lv_at hl 9 rfl) ?_
                      refine lv_iload_n C.1 C.2.1 dL_numbers_212 rfl (lv_at hl 10 rfl) ?_
                      refine lv_iload C.1 C.2.1 dL_numbers_213 (lv_at hl 7 rfl) ?_
                      refine lv_iload C.1 C.2.1 dL_numbers_215 (lv_at hl 4 rfl) ?_
                      refine jr_iconst C dL_numbers_217 ?_
                      refine cl_X6_get C hl.1 B q_296 ⟨Nat.le_of_ble_eq_true rfl, Nat.le_of_ble_eq_true rfl⟩ ⟨Nat.zero_le _, Nat.zero_le _⟩ (Nat.le_of_ble_eq_true rfl) k_a1 r_a2 r_x2 r_x8 (jkc rfl) h dL_numbers_218 (fun x49 r_x49 _ _ h B => ?_)
                      refine lv_aload_n C.1 C.2.1 dL_numbers_221 rfl (lv_at hl 9 rfl) ?_
                      refine lv_iload_n C.1 C.2.1 dL_numbers_222 rfl (lv_at hl 10 rfl) ?_
                      refine lv_iload C.1 C.2.1 dL_numbers_223 (lv_at hl 6 rfl) ?_
                      refine lv_iload C.1 C.2.1 dL_numbers_225 (lv_at hl 4 rfl) ?_
                      refine jr_iconst C dL_numbers_227 ?_
                      refine cl_X6_get C hl.1 B q_296 ⟨Nat.le_of_ble_eq_true rfl, Nat.le_of_ble_eq_true rfl⟩ ⟨Nat.zero_le _, Nat.zero_le _⟩ (Nat.le_of_ble_eq_true rfl) k_a1 r_a2 r_x3 r_x8 (jkc rfl) h dL_numbers_228 (fun x50 r_x50 _ _ h B => ?_)
                      refine jr_imul C dL_numbers_231 ?_
                      refine jr_icmp_ne (tgt := 239) C r_x47 (jW_R _) h dL_numbers_232 (by decide) (fun hc232 h => ?_) (fun hc232 h => ?_)
                      · refine jr_iconst C dL_numbers_235 ?_
                        refine lv_goto (tgt := 240) C.1 C.2.1 dL_numbers_236 (by decide) ?_
                        refine lv_istore (lv' := [(9, .int (jI 1)), (7, .int (jI x38)), (8, .int (jI x39)), (11, .int (jI x41)), (10, .int (jI x8)), (6, .int (jI x4)), (5, .int (jI x3)), (4, .int (jI x2)), (3, .int (jI x1)), (0, .ref (jD G a1)), (1, .int (jI a2)), (2, .int (jI a3))]) C.1 C.2.1 dL_numbers_240 hl (by decide) rfl (fun ls hl => ?_)
                        refine jr_iinc (k := 4) (lv' := fun x51 => [(10, .int (jI x51)), (9, .int (jI 1)), (7, .int (jI x38)), (8, .int (jI x39)), (11, .int (jI x41)), (6, .int (jI x4)), (5, .int (jI x3)), (4, .int (jI x2)), (3, .int (jI x1)), (0, .ref (jD G a1)), (1, .int (jI a2)), (2, .int (jI a3))]) C h hl rfl (by decide) (fun _ => rfl) dL_numbers_242 (fun x51 h r_x51 ls hl => ?_)
                        refine lv_goto (tgt := 44) C.1 C.2.1 dL_numbers_245 (by decide) ?_
                        exact ih44 _ _ _ _ _ _ _ _ h r_x38 r_x39 (Or.inr rfl) r_x51 B (lv_sub hl [2, 3, 1, 0, 5, 6, 7, 8, 9, 10, 11] rfl)
                      · refine jr_iconst C dL_numbers_239 ?_
                        refine lv_istore (lv' := [(9, .int (jI 0)), (7, .int (jI x38)), (8, .int (jI x39)), (11, .int (jI x41)), (10, .int (jI x8)), (6, .int (jI x4)), (5, .int (jI x3)), (4, .int (jI x2)), (3, .int (jI x1)), (0, .ref (jD G a1)), (1, .int (jI a2)), (2, .int (jI a3))]) C.1 C.2.1 dL_numbers_240 hl (by decide) rfl (fun ls hl => ?_)
                        refine jr_iinc (k := 4) (lv' := fun x52 => [(10, .int (jI x52)), (9, .int (jI 0)), (7, .int (jI x38)), (8, .int (jI x39)), (11, .int (jI x41)), (6, .int (jI x4)), (5, .int (jI x3)), (4, .int (jI x2)), (3, .int (jI x1)), (0, .ref (jD G a1)), (1, .int (jI a2)), (2, .int (jI a3))]) C h hl rfl (by decide) (fun _ => rfl) dL_numbers_242 (fun x52 h r_x52 ls hl => ?_)
                        refine lv_goto (tgt := 44) C.1 C.2.1 dL_numbers_245 (by decide) ?_
                        exact ih44 _ _ _ _ _ _ _ _ h r_x38 r_x39 (Or.inl rfl) r_x52 B (lv_sub hl [2, 3, 1, 0, 5, 6, 7, 8, 9, 10, 11] rfl)
                    · refine jr_iconst C dL_numbers_235 ?_
                      refine lv_goto (tgt := 240) C.1 C.2.1 dL_numbers_236 (by decide) ?_
                      refine lv_istore (lv' := [(9, .int (jI 1)), (7, .int (jI x38)), (8, .int (jI x39)), (11, .int (jI x41)), (10, .int (jI x8)), (6, .int (jI x4)), (5, .int (jI x3)), (4, .int (jI x2)), (3, .int (jI x1)), (0, .ref (jD G a1)), (1, .int (jI a2)), (2, .int (jI a3))]) C.1 C.2.1 dL_numbers_240 hl (by decide) rfl (fun ls hl => ?_)
                      refine jr_iinc (k := 4) (lv' := fun x53 => [(10, .int (jI x53)), (9, .int (jI 1)), (7, .int (jI x38)), (8, .int (jI x39)), (11, .int (jI x41)), (6, .int (jI x4)), (5, .int (jI x3)), (4, .int (jI x2)), (3, .int (jI x1)), (0, .ref (jD G a1)), (1, .int (jI a2)), (2, .int (jI a3))]) C h hl rfl (by decide) (fun _ => rfl) dL_numbers_242 (fun x53 h r_x53 ls hl => ?_)
                      refine lv_goto (tgt := 44) C.1 C.2.1 dL_numbers_245 (by decide) ?_
                      exact ih44 _ _ _ _ _ _ _ _ h r_x38 r_x39 (Or.inr rfl) r_x53 B (lv_sub hl [2, 3, 1, 0, 5, 6, 7, 8, 9, 10, 11] rfl)
                  · refine jr_iconst C dL_numbers_235 ?_
                    refine lv_goto (tgt := 240) C.1 C.2.1 dL_numbers_236 (by decide) ?_
                    refine lv_istore (lv' := [(9, .int (jI 1)), (7, .int (jI x38)), (8, .int (jI x39)), (11, .int (jI x41)), (10, .int (jI x8)), (6, .int (jI x4)), (5, .int (jI x3)), (4, .int (jI x2)), (3, .int (jI x1)), (0, .ref (jD G a1)), (1, .int (jI a2)), (2, .int (jI a3))]) C.1 C.2.1 dL_numbers_240 hl (by decide) rfl (fun ls hl => ?_)
                    refine jr_iinc (k := 4) (lv' := fun x54 => [(10, .int (jI x54)), (9, .int (jI 1)), (7, .int (jI x38)), (8, .int (jI x39)), (11, .int (jI x41)), (6, .int (jI x4)), (5, .int (jI x3)), (4, .int (jI x2)), (3, .int (jI x1)), (0, .ref (jD G a1)), (1, .int (jI a2)), (2, .int (jI a3))]) C h hl rfl (by decide) (fun _ => rfl) dL_numbers_242 (fun x54 h r_x54 ls hl => ?_)
                    refine lv_goto (tgt := 44) C.1 C.2.1 dL_numbers_245 (by decide) ?_
                    exact ih44 _ _ _ _ _ _ _ _ h r_x38 r_x39 (Or.inr rfl) r_x54 B (lv_sub hl [2, 3, 1, 0, 5, 6, 7, 8, 9, 10, 11] rfl)
                · refine jr_iconst C dL_numbers_239 ?_
                  refine lv_istore (lv' := [(9, .int (jI 0)), (7, .int (jI x38)), (8, .int (jI x39)), (11, .int (jI x41)), (10, .int (jI x8)), (6, .int (jI x4)), (5, .int (jI x3)), (4, .int (jI x2)), (3, .int (jI x1)), (0, .ref (jD G a1)), (1, .int (jI a2)), (2, .int (jI a3))]) C.1 C.2.1 dL_numbers_240 hl (by decide) rfl (fun ls hl => ?_)
                  refine jr_iinc (k := 4) (lv' := fun x55 => [(10, .int (jI x55)), (9, .int (jI 0)), (7, .int (jI x38)), (8, .int (jI x39)), (11, .int (jI x41)), (6, .int (jI x4)), (5, .int (jI x3)), (4, .int (jI x2)), (3, .int (jI x1)), (0, .ref (jD G a1)), (1, .int (jI a2)), (2, .int (jI a3))]) C h hl rfl (by decide) (fun _ => rfl) dL_numbers_242 (fun x55 h r_x55 ls hl => ?_)
                  refine lv_goto (tgt := 44) C.1 C.2.1 dL_numbers_245 (by decide) ?_
                  exact ih44 _ _ _ _ _ _ _ _ h r_x38 r_x39 (Or.inl rfl) r_x55 B (lv_sub hl [2, 3, 1, 0, 5, 6, 7, 8, 9, 10, 11] rfl)
              · refine lv_iload_n C.1 C.2.1 dL_numbers_186 rfl (lv_at hl 8 rfl) ?_
                refine jr_iconst C dL_numbers_187 ?_
                refine jr_icmp_ne (tgt := 235) C r_x1 (jkc rfl) h dL_numbers_188 (by decide) (fun hc188 h => ?_) (fun hc188 h => ?_)
                · refine lv_iload C.1 C.2.1 dL_numbers_191 (lv_at hl 4 rfl) ?_
                  refine lv_aload_n C.1 C.2.1 dL_numbers_193 rfl (lv_at hl 9 rfl) ?_
                  refine lv_iload_n C.1 C.2.1 dL_numbers_194 rfl (lv_at hl 10 rfl) ?_
                  refine lv_iload C.1 C.2.1 dL_numbers_195 (lv_at hl 6 rfl) ?_
                  refine cl_X6_values C hl.1 B q_275 ⟨Nat.le_of_ble_eq_true rfl, Nat.le_of_ble_eq_true rfl⟩ ⟨Nat.zero_le _, Nat.zero_le _⟩ (Nat.le_of_ble_eq_true rfl) k_a1 r_a2 r_x3 h dL_numbers_197 (fun x56 r_x56 _ _ h B => ?_)
                  refine jr_icmp_ge (tgt := 235) C r_x8 r_x56 h dL_numbers_200 (by decide) (fun hc200 h => ?_) (fun hc200 h => ?_)
                  · refine lv_aload_n C.1 C.2.1 dL_numbers_203 rfl (lv_at hl 9 rfl) ?_
                    refine lv_iload_n C.1 C.2.1 dL_numbers_204 rfl (lv_at hl 10 rfl) ?_
                    refine lv_iload_n C.1 C.2.1 dL_numbers_205 rfl (lv_at hl 11 rfl) ?_
                    refine lv_iload C.1 C.2.1 dL_numbers_206 (lv_at hl 4 rfl) ?_
                    refine cl_X6_numberAt C hl.1 B q_338 ⟨Nat.le_of_ble_eq_true rfl, Nat.le_of_ble_eq_true rfl⟩ ⟨Nat.zero_le _, Nat.zero_le _⟩ (Nat.le_of_ble_eq_true rfl) k_a1 r_a2 r_a3 r_x8 h dL_numbers_208 (fun x57 M58 r_x57 _ _ h B => ?_)
                    have o_M58 := B.2.2
                    refine lv_aload_n C.1 C.2.1 dL_numbers_211 rfl (lv_at hl 9 rfl) ?_
                    refine lv_iload_n C.1 C.2.1 dL_numbers_212 rfl (lv_at hl 10 rfl) ?_
                    refine lv_iload C.1 C.2.1 dL_numbers_213 (lv_at hl 7 rfl) ?_
                    refine lv_iload C.1 C.2.1 dL_numbers_215 (lv_at hl 4 rfl) ?_
                    refine jr_iconst C dL_numbers_217 ?_
                    refine cl_X6_get C hl.1 B q_296 ⟨Nat.le_of_ble_eq_true rfl, Nat.le_of_ble_eq_true rfl⟩ ⟨Nat.zero_le _, Nat.zero_le _⟩ (Nat.le_of_ble_eq_true rfl) k_a1 r_a2 r_x2 r_x8 (jkc rfl) h dL_numbers_218 (fun x59 r_x59 _ _ h B => ?_)
                    refine lv_aload_n C.1 C.2.1 dL_numbers_221 rfl (lv_at hl 9 rfl) ?_
                    refine lv_iload_n C.1 C.2.1 dL_numbers_222 rfl (lv_at hl 10 rfl) ?_
                    refine lv_iload C.1 C.2.1 dL_numbers_223 (lv_at hl 6 rfl) ?_
                    refine lv_iload C.1 C.2.1 dL_numbers_225 (lv_at hl 4 rfl) ?_
                    refine jr_iconst C dL_numbers_227 ?_
                    refine cl_X6_get C hl.1 B q_296 ⟨Nat.le_of_ble_eq_true rfl, Nat.le_of_ble_eq_true rfl⟩ ⟨Nat.zero_le _, Nat.zero_le _⟩ (Nat.le_of_ble_eq_true rfl) k_a1 r_a2 r_x3 r_x8 (jkc rfl) h dL_numbers_228 (fun x60 r_x60 _ _ h B => ?_)
                    refine jr_imul C dL_numbers_231 ?_
                    refine jr_icmp_ne (tgt := 239) C r_x57 (jW_R _) h dL_numbers_232 (by decide) (fun hc232 h => ?_) (fun hc232 h => ?_)
                    · refine jr_iconst C dL_numbers_235 ?_
                      refine lv_goto (tgt := 240) C.1 C.2.1 dL_numbers_236 (by decide) ?_
                      refine lv_istore (lv' := [(9, .int (jI 1)), (7, .int (jI x38)), (8, .int (jI x39)), (11, .int (jI x41)), (10, .int (jI x8)), (6, .int (jI x4)), (5, .int (jI x3)), (4, .int (jI x2)), (3, .int (jI x1)), (0, .ref (jD G a1)), (1, .int (jI a2)), (2, .int (jI a3))]) C.1 C.2.1 dL_numbers_240 hl (by decide) rfl (fun ls hl => ?_)
                      refine jr_iinc (k := 4) (lv' := fun x61 => [(10, .int (jI x61)), (9, .int (jI 1)), (7, .int (jI x38)), (8, .int (jI x39)), (11, .int (jI x41)), (6, .int (jI x4)), (5, .int (jI x3)), (4, .int (jI x2)), (3, .int (jI x1)), (0, .ref (jD G a1)), (1, .int (jI a2)), (2, .int (jI a3))]) C h hl rfl (by decide) (fun _ => rfl) dL_numbers_242 (fun x61 h r_x61 ls hl => ?_)
                      refine lv_goto (tgt := 44) C.1 C.2.1 dL_numbers_245 (by decide) ?_
                      exact ih44 _ _ _ _ _ _ _ _ h r_x38 r_x39 (Or.inr rfl) r_x61 B (lv_sub hl [2, 3, 1, 0, 5, 6, 7, 8, 9, 10, 11] rfl)
                    · refine jr_iconst C dL_numbers_239 ?_
                      refine lv_istore (lv' := [(9, .int (jI 0)), (7, .int (jI x38)), (8, .int (jI x39)), (11, .int (jI x41)), (10, .int (jI x8)), (6, .int (jI x4)), (5, .int (jI x3)), (4, .int (jI x2)), (3, .int (jI x1)), (0, .ref (jD G a1)), (1, .int (jI a2)), (2, .int (jI a3))]) C.1 C.2.1 dL_numbers_240 hl (by decide) rfl (fun ls hl => ?_)
                      refine jr_iinc (k := 4) (lv' := fun x62 => [(10, .int (jI x62)), (9, .int (jI 0)), (7, .int (jI x38)), (8, .int (jI x39)), (11, .int (jI x41)), (6, .int (jI x4)), (5, .int (jI x3)), (4, .int (jI x2)), (3, .int (jI x1)), (0, .ref (jD G a1)), (1, .int (jI a2)), (2, .int (jI a3))]) C h hl rfl (by decide) (fun _ => rfl) dL_numbers_242 (fun x62 h r_x62 ls hl => ?_)
                      refine lv_goto (tgt := 44) C.1 C.2.1 dL_numbers_245 (by decide) ?_
                      exact ih44 _ _ _ _ _ _ _ _ h r_x38 r_x39 (Or.inl rfl) r_x62 B (lv_sub hl [2, 3, 1, 0, 5, 6, 7, 8, 9, 10, 11] rfl)
                  · refine jr_iconst C dL_numbers_235 ?_
                    refine lv_goto (tgt := 240) C.1 C.2.1 dL_numbers_236 (by decide) ?_
                    refine lv_istore (lv' := [(9, .int (jI 1)), (7, .int (jI x38)), (8, .int (jI x39)), (11, .int (jI x41)), (10, .int (jI x8)), (6, .int (jI x4)), (5, .int (jI x3)), (4, .int (jI x2)), (3, .int (jI x1)), (0, .ref (jD G a1)), (1, .int (jI a2)), (2, .int (jI a3))]) C.1 C.2.1 dL_numbers_240 hl (by decide) rfl (fun ls hl => ?_)
                    refine jr_iinc (k := 4) (lv' := fun x63 => [(10, .int (jI x63)), (9, .int (jI 1)), (7, .int (jI x38)), (8, .int (jI x39)), (11, .int (jI x41)), (6, .int (jI x4)), (5, .int (jI x3)), (4, .int (jI x2)), (3, .int (jI x1)), (0, .ref (jD G a1)), (1, .int (jI a2)), (2, .int (jI a3))]) C h hl rfl (by decide) (fun _ => rfl) dL_numbers_242 (fun x63 h r_x63 ls hl => ?_)
                    refine lv_goto (tgt := 44) C.1 C.2.1 dL_numbers_245 (by decide) ?_
                    exact ih44 _ _ _ _ _ _ _ _ h r_x38 r_x39 (Or.inr rfl) r_x63 B (lv_sub hl [2, 3, 1, 0, 5, 6, 7, 8, 9, 10, 11] rfl)
                · refine jr_iconst C dL_numbers_235 ?_
                  refine lv_goto (tgt := 240) C.1 C.2.1 dL_numbers_236 (by decide) ?_
                  refine lv_istore (lv' := [(9, .int (jI 1)), (7, .int (jI x38)), (8, .int (jI x39)), (11, .int (jI x41)), (10, .int (jI x8)), (6, .int (jI x4)), (5, .int (jI x3)), (4, .int (jI x2)), (3, .int (jI x1)), (0, .ref (jD G a1)), (1, .int (jI a2)), (2, .int (jI a3))]) C.1 C.2.1 dL_numbers_240 hl (by decide) rfl (fun ls hl => ?_)
                  refine jr_iinc (k := 4) (lv' := fun x64 => [(10, .int (jI x64)), (9, .int (jI 1)), (7, .int (jI x38)), (8, .int (jI x39)), (11, .int (jI x41)), (6, .int (jI x4)), (5, .int (jI x3)), (4, .int (jI x2)), (3, .int (jI x1)), (0, .ref (jD G a1)), (1, .int (jI a2)), (2, .int (jI a3))]) C h hl rfl (by decide) (fun _ => rfl) dL_numbers_242 (fun x64 h r_x64 ls hl => ?_)
                  refine lv_goto (tgt := 44) C.1 C.2.1 dL_numbers_245 (by decide) ?_
                  exact ih44 _ _ _ _ _ _ _ _ h r_x38 r_x39 (Or.inr rfl) r_x64 B (lv_sub hl [2, 3, 1, 0, 5, 6, 7, 8, 9, 10, 11] rfl)
          have hL64 : ∀ (n : Nat) (x32 : Int) (x33 : Int) (x34 : Int) (x35 : Int) (x36 : Int) (M37 : jM) (H : Heap) (locs : List Loc) (ls : Array Slot), lp_L_numbers_64 N a1 a2 a3 x1 x2 x8 kx64 n x32 x33 x34 x35 x36 M37 → jR x32 → jR x33 → (x34 = 0 ∨ x34 = 1) → jR x35 → jR x36 → Hp G M37 s.heap H locs → lv_has ls 14 [(7, .int (jI x32)), (8, .int (jI x33)), (9, .int (jI x34)), (11, .int (jI x35)), (12, .int (jI x36)), (10, .int (jI x8)), (6, .int (jI x4)), (5, .int (jI x3)), (4, .int (jI x2)), (3, .int (jI x1)), (0, .ref (jD G a1)), (1, .int (jI a2)), (2, .int (jI a3))] → W p l e (rmm 5 117) s m args below meth c H locs 0 0 (MQ below (qZ G k) args s 0 0 (gA G)) (F0 m 64 ls []) := by
            intro n
            induction n with
            | zero => intro x32 x33 x34 x35 x36 M37 H locs ls h; exact (show False from h).elim
            | succ n ih64 =>
              intro x32 x33 x34 x35 x36 M37 H locs ls h r_x32 r_x33 z_x34 r_x35 r_x36 B hl
              have o_M37 := B.2.2
              rw [lp_L_numbers_64] at h
              refine lv_iload C.1 C.2.1 dL_numbers_64 (lv_at hl 4 rfl) ?_
              refine lv_aload_n C.1 C.2.1 dL_numbers_66 rfl (lv_at hl 10 rfl) ?_
              refine lv_iload_n C.1 C.2.1 dL_numbers_67 rfl (lv_at hl 11 rfl) ?_
              refine lv_iload C.1 C.2.1 dL_numbers_68 (lv_at hl 8 rfl) ?_
              refine lv_iload C.1 C.2.1 dL_numbers_70 (lv_at hl 5 rfl) ?_
              refine cl_X6_subvalues C hl.1 B q_283 ⟨Nat.le_of_ble_eq_true rfl, Nat.le_of_ble_eq_true rfl⟩ ⟨Nat.zero_le _, Nat.zero_le _⟩ (Nat.le_of_ble_eq_true rfl) k_a1 r_a2 r_x2 r_x8 h dL_numbers_72 (fun x65 r_x65 _ _ h B => ?_)
              refine jr_icmp_ge (tgt := 163) C r_x36 r_x65 h dL_numbers_75 (by decide) (fun hc75 h => ?_) (fun hc75 h => ?_)
              · refine lv_aload_n C.1 C.2.1 dL_numbers_78 rfl (lv_at hl 10 rfl) ?_
                refine lv_iload_n C.1 C.2.1 dL_numbers_79 rfl (lv_at hl 11 rfl) ?_
                refine lv_iload C.1 C.2.1 dL_numbers_80 (lv_at hl 8 rfl) ?_
                refine lv_iload C.1 C.2.1 dL_numbers_82 (lv_at hl 5 rfl) ?_
                refine lv_iload C.1 C.2.1 dL_numbers_84 (lv_at hl 4 rfl) ?_
                refine cl_X6_get C hl.1 B q_296 ⟨Nat.le_of_ble_eq_true rfl, Nat.le_of_ble_eq_true rfl⟩ ⟨Nat.zero_le _, Nat.zero_le _⟩ (Nat.le_of_ble_eq_true rfl) k_a1 r_a2 r_x2 r_x8 r_x36 h dL_numbers_86 (fun x66 r_x66 _ _ h B => ?_)
                refine lv_istore (lv' := [(13, .int (jI x66)), (7, .int (jI x32)), (8, .int (jI x33)), (9, .int (jI x34)), (11, .int (jI x35)), (12, .int (jI x36)), (10, .int (jI x8)), (6, .int (jI x4)), (5, .int (jI x3)), (4, .int (jI x2)), (3, .int (jI x1)), (0, .ref (jD G a1)), (1, .int (jI a2)), (2, .int (jI a3))]) C.1 C.2.1 dL_numbers_89 hl (by decide) rfl (fun ls hl => ?_)
                refine lv_iload C.1 C.2.1 dL_numbers_91 (lv_at hl 2 rfl) ?_
                refine lv_iload C.1 C.2.1 dL_numbers_93 (lv_at hl 0 rfl) ?_
                refine jr_iadd C dL_numbers_95 ?_
                refine jr_nm h (jW_R _) (fun x67 h r_x67 => ?_)
                refine lv_istore (lv' := [(8, .int (jI x67)), (13, .int (jI x66)), (7, .int (jI x32)), (9, .int (jI x34)), (11, .int (jI x35)), (12, .int (jI x36)), (10, .int (jI x8)), (6, .int (jI x4)), (5, .int (jI x3)), (4, .int (jI x2)), (3, .int (jI x1)), (0, .ref (jD G a1)), (1, .int (jI a2)), (2, .int (jI a3))]) C.1 C.2.1 dL_numbers_96 hl (by decide) rfl (fun ls hl => ?_)
                refine lv_iload C.1 C.2.1 dL_numbers_98 (lv_at hl 1 rfl) ?_
                refine lv_iload C.1 C.2.1 dL_numbers_100 (lv_at hl 4 rfl) ?_
                obtain ⟨j102_69, hj102_69, h⟩ := jx_join (P := fun j102_69 : Int → Prop => ∀ (x68 : Int) (H : Heap) (locs : List Loc) (ls : Array Slot), j102_69 x68 → jR x68 → Hp G M37 s.heap H locs → lv_has ls 14 [(8, .int (jI x67)), (13, .int (jI x66)), (7, .int (jI x32)), (9, .int (jI x34)), (12, .int (jI x36)), (10, .int (jI x8)), (6, .int (jI x4)), (5, .int (jI x3)), (4, .int (jI x2)), (3, .int (jI x1)), (0, .ref (jD G a1)), (1, .int (jI a2)), (2, .int (jI a3))] → W p l e (rmm 5 117) s m args below meth c H locs 0 0 (MQ below (qZ G k) args s 0 0 (gA G)) (F0 m 112 ls [.int (jI x68)])) h (by
                  intro x68 H locs ls h r_x68 B hl
                  refine lv_istore (lv' := [(11, .int (jI x68)), (8, .int (jI x67)), (13, .int (jI x66)), (7, .int (jI x32)), (9, .int (jI x34)), (12, .int (jI x36)), (10, .int (jI x8)), (6, .int (jI x4)), (5, .int (jI x3)), (4, .int (jI x2)), (3, .int (jI x1)), (0, .ref (jD G a1)), (1, .int (jI a2)), (2, .int (jI a3))]) C.1 C.2.1 dL_numbers_112 hl (by decide) rfl (fun ls hl => ?_)
                  refine lv_iload C.1 C.2.1 dL_numbers_114 (lv_at hl 4 rfl) ?_
                  refine jr_if_eq (tgt := 140) C (zR z_x34) h dL_numbers_116 (by decide) (fun hc116 h => ?_) (fun hc116 h => ?_)
                  · refine jr_iconst C dL_numbers_140 ?_
                    refine lv_istore (lv' := [(9, .int (jI 0)), (11, .int (jI x68)), (8, .int (jI x67)), (13, .int (jI x66)), (7, .int (jI x32)), (12, .int (jI x36)), (10, .int (jI x8)), (6, .int (jI x4)), (5, .int (jI x3)), (4, .int (jI x2)), (3, .int (jI x1)), (0, .ref (jD G a1)), (1, .int (jI a2)), (2, .int (jI a3))]) C.1 C.2.1 dL_numbers_141 hl (by decide) rfl (fun ls hl => ?_)
                    refine lv_iload C.1 C.2.1 dL_numbers_143 (lv_at hl 4 rfl) ?_
                    refine lv_iload_n C.1 C.2.1 dL_numbers_145 rfl (lv_at hl 10 rfl) ?_
                    refine jr_if_ne (tgt := 153) C r_x1 h dL_numbers_146 (by decide) (fun hc146 h => ?_) (fun hc146 h => ?_)
                    · refine jr_iconst C dL_numbers_149 ?_
                      refine lv_goto (tgt := 154) C.1 C.2.1 dL_numbers_150 (by decide) ?_
                      refine jr_iadd C dL_numbers_154 ?_
                      refine jr_nm h (jW_R _) (fun x70 h r_x70 => ?_)
                      refine lv_istore (lv' := [(7, .int (jI x70)), (9, .int (jI 0)), (11, .int (jI x68)), (8, .int (jI x67)), (13, .int (jI x66)), (12, .int (jI x36)), (10, .int (jI x8)), (6, .int (jI x4)), (5, .int (jI x3)), (4, .int (jI x2)), (3, .int (jI x1)), (0, .ref (jD G a1)), (1, .int (jI a2)), (2, .int (jI a3))]) C.1 C.2.1 dL_numbers_155 hl (by decide) rfl (fun ls hl => ?_)
                      refine jr_iinc (k := 5) (lv' := fun x71 => [(12, .int (jI x71)), (7, .int (jI x70)), (9, .int (jI 0)), (11, .int (jI x68)), (8, .int (jI x67)), (13, .int (jI x66)), (10, .int (jI x8)), (6, .int (jI x4)), (5, .int (jI x3)), (4, .int (jI x2)), (3, .int (jI x1)), (0, .ref (jD G a1)), (1, .int (jI a2)), (2, .int (jI a3))]) C h hl rfl (by decide) (fun _ => rfl) dL_numbers_157 (fun x71 h r_x71 ls hl => ?_)
                      refine lv_goto (tgt := 64) C.1 C.2.1 dL_numbers_160 (by decide) ?_
                      exact ih64 _ _ _ _ _ _ _ _ _ h r_x70 r_x67 (Or.inl rfl) r_x68 r_x71 B (lv_sub hl [1, 4, 2, 3, 0, 6, 7, 8, 9, 10, 11, 12, 13] rfl)
                    · refine jr_iconst C dL_numbers_153 ?_
                      refine jr_iadd C dL_numbers_154 ?_
                      refine jr_nm h (jW_R _) (fun x72 h r_x72 => ?_)
                      refine lv_istore (lv' := [(7, .int (jI x72)), (9, .int (jI 0)), (11, .int (jI x68)), (8, .int (jI x67)), (13, .int (jI x66)), (12, .int (jI x36)), (10, .int (jI x8)), (6, .int (jI x4)), (5, .int (jI x3)), (4, .int (jI x2)), (3, .int (jI x1)), (0, .ref (jD G a1)), (1, .int (jI a2)), (2, .int (jI a3))]) C.1 C.2.1 dL_numbers_155 hl (by decide) rfl (fun ls hl => ?_)
                      refine jr_iinc (k := 5) (lv' := fun x73 => [(12, .int (jI x73)), (7, .int (jI x72)), (9, .int (jI 0)), (11, .int (jI x68)), (8, .int (jI x67)), (13, .int (jI x66)), (10, .int (jI x8)), (6, .int (jI x4)), (5, .int (jI x3)), (4, .int (jI x2)), (3, .int (jI x1)), (0, .ref (jD G a1)), (1, .int (jI a2)), (2, .int (jI a3))]) C h hl rfl (by decide) (fun _ => rfl) dL_numbers_157 (fun x73 h r_x73 ls hl => ?_)
                      refine lv_goto (tgt := 64) C.1 C.2.1 dL_numbers_160 (by decide) ?_
                      exact ih64 _ _ _ _ _ _ _ _ _ h r_x72 r_x67 (Or.inl rfl) r_x68 r_x73 B (lv_sub hl [1, 4, 2, 3, 0, 6, 7, 8, 9, 10, 11, 12, 13] rfl)
                  · refine lv_iload_n C.1 C.2.1 dL_numbers_119 rfl (lv_at hl 10 rfl) ?_
                    refine jr_if_ne (tgt := 136) C r_x1 h dL_numbers_120 (by decide) (fun hc120 h => ?_) (fun hc120 h => ?_)
                    · refine lv_aload_n C.1 C.2.1 dL_numbers_123 rfl (lv_at hl 11 rfl) ?_
                      refine lv_iload_n C.1 C.2.1 dL_numbers_124 rfl (lv_at hl 12 rfl) ?_
                      refine lv_iload_n C.1 C.2.1 dL_numbers_125 rfl (lv_at hl 13 rfl) ?_
                      refine lv_iload C.1 C.2.1 dL_numbers_126 (lv_at hl 3 rfl) ?_
                      refine cl_X6_numberAt C hl.1 B q_338 ⟨Nat.le_of_ble_eq_true rfl, Nat.le_of_ble_eq_true rfl⟩ ⟨Nat.zero_le _, Nat.zero_le _⟩ (Nat.le_of_ble_eq_true rfl) k_a1 r_a2 r_a3 r_x32 h dL_numbers_128 (fun x74 M75 r_x74 _ _ h B => ?_)
                      have o_M75 := B.2.2
                      refine lv_iload C.1 C.2.1 dL_numbers_131 (lv_at hl 2 rfl) ?_
                      refine jr_icmp_ne (tgt := 140) C r_x74 r_x66 h dL_numbers_133 (by decide) (fun hc133 h => ?_) (fun hc133 h => ?_)
                      · refine jr_iconst C dL_numbers_136 ?_
                        refine lv_goto (tgt := 141) C.1 C.2.1 dL_numbers_137 (by decide) ?_
                        refine lv_istore (lv' := [(9, .int (jI 1)), (11, .int (jI x68)), (8, .int (jI x67)), (13, .int (jI x66)), (7, .int (jI x32)), (12, .int (jI x36)), (10, .int (jI x8)), (6, .int (jI x4)), (5, .int (jI x3)), (4, .int (jI x2)), (3, .int (jI x1)), (0, .ref (jD G a1)), (1, .int (jI a2)), (2, .int (jI a3))]) C.1 C.2.1 dL_numbers_141 hl (by decide) rfl (fun ls hl => ?_)
                        refine lv_iload C.1 C.2.1 dL_numbers_143 (lv_at hl 4 rfl) ?_
                        refine lv_iload_n C.1 C.2.1 dL_numbers_145 rfl (lv_at hl 10 rfl) ?_
                        refine jr_if_ne (tgt := 153) C r_x1 h dL_numbers_146 (by decide) (fun hc146 h => ?_) (fun hc146 h => ?_)
                        · refine jr_iconst C dL_numbers_149 ?_
                          refine lv_goto (tgt := 154) C.1 C.2.1 dL_numbers_150 (by decide) ?_
                          refine jr_iadd C dL_numbers_154 ?_
                          refine jr_nm h (jW_R _) (fun x76 h r_x76 => ?_)
                          refine lv_istore (lv' := [(7, .int (jI x76)), (9, .int (jI 1)), (11, .int (jI x68)), (8, .int (jI x67)), (13, .int (jI x66)), (12, .int (jI x36)), (10, .int (jI x8)), (6, .int (jI x4)), (5, .int (jI x3)), (4, .int (jI x2)), (3, .int (jI x1)), (0, .ref (jD G a1)), (1, .int (jI a2)), (2, .int (jI a3))]) C.1 C.2.1 dL_numbers_155 hl (by decide) rfl (fun ls hl => ?_)
                          refine jr_iinc (k := 5) (lv' := fun x77 => [(12, .int (jI x77)), (7, .int (jI x76)), (9, .int (jI 1)), (11, .int (jI x68)), (8, .int (jI x67)), (13, .int (jI x66)), (10, .int (jI x8)), (6, .int (jI x4)), (5, .int (jI x3)), (4, .int (jI x2)), (3, .int (jI x1)), (0, .ref (jD G a1)), (1, .int (jI a2)), (2, .int (jI a3))]) C h hl rfl (by decide) (fun _ => rfl) dL_numbers_157 (fun x77 h r_x77 ls hl => ?_)
                          refine lv_goto (tgt := 64) C.1 C.2.1 dL_numbers_160 (by decide) ?_
                          exact ih64 _ _ _ _ _ _ _ _ _ h r_x76 r_x67 (Or.inr rfl) r_x68 r_x77 B (lv_sub hl [1, 4, 2, 3, 0, 6, 7, 8, 9, 10, 11, 12, 13] rfl)
                        · refine jr_iconst C dL_numbers_153 ?_
                          refine jr_iadd C dL_numbers_154 ?_
                          refine jr_nm h (jW_R _) (fun x78 h r_x78 => ?_)
                          refine lv_istore (lv' := [(7, .int (jI x78)), (9, .int (jI 1)), (11, .int (jI x68)), (8, .int (jI x67)), (13, .int (jI x66)), (12, .int (jI x36)), (10, .int (jI x8)), (6, .int (jI x4)), (5, .int (jI x3)), (4, .int (jI x2)), (3, .int (jI x1)), (0, .ref (jD G a1)), (1, .int (jI a2)), (2, .int (jI a3))]) C.1 C.2.1 dL_numbers_155 hl (by decide) rfl (fun ls hl => ?_)
                          refine jr_iinc (k := 5) (lv' := fun x79 => [(12, .int (jI x79)), (7, .int (jI x78)), (9, .int (jI 1)), (11, .int (jI x68)), (8, .int (jI x67)), (13, .int (jI x66)), (10, .int (jI x8)), (6, .int (jI x4)), (5, .int (jI x3)), (4, .int (jI x2)), (3, .int (jI x1)), (0, .ref (jD G a1)), (1, .int (jI a2)), (2, .int (jI a3))]) C h hl rfl (by decide) (fun _ => rfl) dL_numbers_157 (fun x79 h r_x79 ls hl => ?_)
                          refine lv_goto (tgt := 64) C.1 C.2.1 dL_numbers_160 (by decide) ?_
                          exact ih64 _ _ _ _ _ _ _ _ _ h r_x78 r_x67 (Or.inr rfl) r_x68 r_x79 B (lv_sub hl [1, 4, 2, 3, 0, 6, 7, 8, 9, 10, 11, 12, 13] rfl)
                      · refine jr_iconst C dL_numbers_140 ?_
                        refine lv_istore (lv' := [(9, .int (jI 0)), (11, .int (jI x68)), (8, .int (jI x67)), (13, .int (jI x66)), (7, .int (jI x32)), (12, .int (jI x36)), (10, .int (jI x8)), (6, .int (jI x4)), (5, .int (jI x3)), (4, .int (jI x2)), (3, .int (jI x1)), (0, .ref (jD G a1)), (1, .int (jI a2)), (2, .int (jI a3))]) C.1 C.2.1 dL_numbers_141 hl (by decide) rfl (fun ls hl => ?_)
                        refine lv_iload C.1 C.2.1 dL_numbers_143 (lv_at hl 4 rfl) ?_
                        refine lv_iload_n C.1 C.2.1 dL_numbers_145 rfl (lv_at hl 10 rfl) ?_
                        refine jr_if_ne (tgt := 153) C r_x1 h dL_numbers_146 (by decide) (fun hc146 h => ?_) (fun hc146 h => ?_)
                        · refine jr_iconst C dL_numbers_149 ?_
                          refine lv_goto (tgt := 154) C.1 C.2.1 dL_numbers_150 (by decide) ?_
                          refine jr_iadd C dL_numbers_154 ?_
                          refine jr_nm h (jW_R _) (fun x80 h r_x80 => ?_)
                          refine lv_istore (lv' := [(7, .int (jI x80)), (9, .int (jI 0)), (11, .int (jI x68)), (8, .int (jI x67)), (13, .int (jI x66)), (12, .int (jI x36)), (10, .int (jI x8)), (6, .int (jI x4)), (5, .int (jI x3)), (4, .int (jI x2)), (3, .int (jI x1)), (0, .ref (jD G a1)), (1, .int (jI a2)), (2, .int (jI a3))]) C.1 C.2.1 dL_numbers_155 hl (by decide) rfl (fun ls hl => ?_)
                          refine jr_iinc (k := 5) (lv' := fun x81 => [(12, .int (jI x81)), (7, .int (jI x80)), (9, .int (jI 0)), (11, .int (jI x68)), (8, .int (jI x67)), (13, .int (jI x66)), (10, .int (jI x8)), (6, .int (jI x4)), (5, .int (jI x3)), (4, .int (jI x2)), (3, .int (jI x1)), (0, .ref (jD G a1)), (1, .int (jI a2)), (2, .int (jI a3))]) C h hl rfl (by decide) (fun _ => rfl) dL_numbers_157 (fun x81 h r_x81 ls hl => ?_)
                          refine lv_goto (tgt := 64) C.1 C.2.1 dL_numbers_160 (by decide) ?_
                          exact ih64 _ _ _ _ _ _ _ _ _ h r_x80 r_x67 (Or.inl rfl) r_x68 r_x81 B (lv_sub hl [1, 4, 2, 3, 0, 6, 7, 8, 9, 10, 11, 12, 13] rfl)
                        · refine jr_iconst C dL_numbers_153 ?_
                          refine jr_iadd C dL_numbers_154 ?_
                          refine jr_nm h (jW_R _) (fun x82 h r_x82 => ?_)
                          refine lv_istore (lv' := [(7, .int (jI x82)), (9, .int (jI 0)), (11, .int (jI x68)), (8, .int (jI x67)), (13, .int (jI x66)), (12, .int (jI x36)), (10, .int (jI x8)), (6, .int (jI x4)), (5, .int (jI x3)), (4, .int (jI x2)), (3, .int (jI x1)), (0, .ref (jD G a1)), (1, .int (jI a2)), (2, .int (jI a3))]) C.1 C.2.1 dL_numbers_155 hl (by decide) rfl (fun ls hl => ?_)
                          refine jr_iinc (k := 5) (lv' := fun x83 => [(12, .int (jI x83)), (7, .int (jI x82)), (9, .int (jI 0)), (11, .int (jI x68)), (8, .int (jI x67)), (13, .int (jI x66)), (10, .int (jI x8)), (6, .int (jI x4)), (5, .int (jI x3)), (4, .int (jI x2)), (3, .int (jI x1)), (0, .ref (jD G a1)), (1, .int (jI a2)), (2, .int (jI a3))]) C h hl rfl (by decide) (fun _ => rfl) dL_numbers_157 (fun x83 h r_x83 ls hl => ?_)
                          refine lv_goto (tgt := 64) C.1 C.2.1 dL_numbers_160 (by decide) ?_
                          exact ih64 _ _ _ _ _ _ _ _ _ h r_x82 r_x67 (Or.inl rfl) r_x68 r_x83 B (lv_sub hl [1, 4, 2, 3, 0, 6, 7, 8, 9, 10, 11, 12, 13] rfl)
                    · refine jr_iconst C dL_numbers_136 ?_
                      refine lv_goto (tgt := 141) C.1 C.2.1 dL_numbers_137 (by decide) ?_
                      refine lv_istore (lv' := [(9, .int (jI 1)), (11, .int (jI x68)), (8, .int (jI x67)), (13, .int (jI x66)), (7, .int (jI x32)), (12, .int (jI x36)), (10, .int (jI x8)), (6, .int (jI x4)), (5, .int (jI x3)), (4, .int (jI x2)), (3, .int (jI x1)), (0, .ref (jD G a1)), (1, .int (jI a2)), (2, .int (jI a3))]) C.1 C.2.1 dL_numbers_141 hl (by decide) rfl (fun ls hl => ?_)
                      refine lv_iload C.1 C.2.1 dL_numbers_143 (lv_at hl 4 rfl) ?_
                      refine lv_iload_n C.1 C.2.1 dL_numbers_145 rfl (lv_at hl 10 rfl) ?_
                      refine jr_if_ne (tgt := 153) C r_x1 h dL_numbers_146 (by decide) (fun hc146 h => ?_) (fun hc146 h => ?_)
                      · refine jr_iconst C dL_numbers_149 ?_
                        refine lv_goto (tgt := 154) C.1 C.2.1 dL_numbers_150 (by decide) ?_
                        refine jr_iadd C dL_numbers_154 ?_
                        refine jr_nm h (jW_R _) (fun x84 h r_x84 => ?_)
                        refine lv_istore (lv' := [(7, .int (jI x84)), (9, .int (jI 1)), (11, .int (jI x68)), (8, .int (jI x67)), (13, .int (jI x66)), (12, .int (jI x36)), (10, .int (jI x8)), (6, .int (jI x4)), (5, .int (jI x3)), (4, .int (jI x2)), (3, .int (jI x1)), (0, .ref (jD G a1)), (1, .int (jI a2)), (2, .int (jI a3))]) C.1 C.2.1 dL_numbers_155 hl (by decide) rfl (fun ls hl => ?_)
                        refine jr_iinc (k := 5) (lv' := fun x85 => [(12, .int (jI x85)), (7, .int (jI x84)), (9, .int (jI 1)), (11, .int (jI x68)), (8, .int (jI x67)), (13, .int (jI x66)), (10, .int (jI x8)), (6, .int (jI x4)), (5, .int (jI x3)), (4, .int (jI x2)), (3, .int (jI x1)), (0, .ref (jD G a1)), (1, .int (jI a2)), (2, .int (jI a3))]) C h hl rfl (by decide) (fun _ => rfl) dL_numbers_157 (fun x85 h r_x85 ls hl => ?_)
                        refine lv_goto (tgt := 64) C.1 C.2.1 dL_numbers_160 (by decide) ?_
                        exact ih64 _ _ _ _ _ _ _ _ _ h r_x84 r_x67 (Or.inr rfl) r_x68 r_x85 B (lv_sub hl [1, 4, 2, 3, 0, 6, 7, 8, 9, 10, 11, 12, 13] rfl)
                      · refine jr_iconst C dL_numbers_153 ?_
                        refine jr_iadd C dL_numbers_154 ?_
                        refine jr_nm h (jW_R _) (fun x86 h r_x86 => ?_)
                        refine lv_istore (lv' := [(7, .int (jI x86)), (9, .int (jI 1)), (11, .int (jI x68)), (8, .int (jI x67)), (13, .int (jI x66)), (12, .int (jI x36)), (10, .int (jI x8)), (6, .int (jI x4)), (5, .int (jI x3)), (4, .int (jI x2)), (3, .int (jI x1)), (0, .ref (jD G a1)), (1, .int (jI a2)), (2, .int (jI a3))]) C.1 C.2.1 dL_numbers_155 hl (by decide) rfl (fun ls hl => ?_)
                        refine jr_iinc (k := 5) (lv' := fun x87 => [(12, .int (jI x87)), (7, .int (jI x86)), (9, .int (jI 1)), (11, .int (jI x68)), (8, .int (jI x67)), (13, .int (jI x66)), (10, .int (jI x8)), (6, .int (jI x4)), (5, .int (jI x3)), (4, .int (jI x2)), (3, .int (jI x1)), (0, .ref (jD G a1)), (1, .int (jI a2)), (2, .int (jI a3))]) C h hl rfl (by decide) (fun _ => rfl) dL_numbers_157 (fun x87 h r_x87 ls hl => ?_)
                        refine lv_goto (tgt := 64) C.1 C.2.1 dL_numbers_160 (by decide) ?_
                        exact ih64 _ _ _ _ _ _ _ _ _ h r_x86 r_x67 (Or.inr rfl) r_x68 r_x87 B (lv_sub hl [1, 4, 2, 3, 0, 6, 7, 8, 9, 10, 11, 12, 13] rfl))
                refine jr_icmp_le (tgt := 110) C r_x66 r_x35 h dL_numbers_102 (by decide) (fun hc102 h => ?_) (fun hc102 h => ?_)
                · refine lv_iload C.1 C.2.1 dL_numbers_110 (lv_at hl 4 rfl) ?_
                  exact hj102_69 _ _ _ _ h r_x35 B (lv_sub hl [0, 1, 2, 3, 5, 6, 7, 8, 9, 10, 11, 12, 13] rfl)
                · refine lv_iload C.1 C.2.1 dL_numbers_105 (lv_at hl 1 rfl) ?_
                  refine lv_goto (tgt := 112) C.1 C.2.1 dL_numbers_107 (by decide) ?_
                  exact hj102_69 _ _ _ _ h r_x66 B (lv_sub hl [0, 1, 2, 3, 5, 6, 7, 8, 9, 10, 11, 12, 13] rfl)
              · exact hkx64 _ _ _ _ _ _ _ _ h r_x32 r_x33 z_x34 r_x35 B (lv_sub hl [0, 1, 2, 3, 5, 6, 7, 8, 9, 10, 11, 12] rfl)
          exact hL64 N _ _ _ _ _ _ _ _ _ h r_x5 r_x6 z_x7 (jkc rfl) (jkc rfl) B (lv_sub hl [2, 3, 4, 1, 0, 5, 6, 7, 8, 9, 10, 11, 12] rfl)
      · exact hkx44 _ _ _ _ _ _ _ h r_x5 r_x6 z_x7 B (lv_sub hl [0, 1, 2, 4, 5, 7, 8, 9, 10] rfl)
  exact hL44 N _ _ _ _ _ _ _ _ h (jkc rfl) (jkc rfl) (Or.inr rfl) (jkc rfl) B (lv_sub hl [3, 2, 1, 0, 4, 5, 6, 7, 8, 9, 10] rfl)
theorem cl_L_numbers {p : Program} {l : Launch} {e : Env} {R : Room} {s : State} {m : MethodId} {args : Array Value} {below : List Frame} {meth : Method} {c : Code} {H : Heap} {locs : List Loc} {cells slots : Nat} {Q : State → Prop} {cc : ByteArray} {nL : Nat} {own : String} {G : jG} {H0 : Heap} {pc idx : Nat} {ls : Array Slot} {rest : List Value} {N : Nat} {M : jM} {a1 a2 a3 : Int} {k : Int → jM → Prop} (C : Cx G p s args m c cc nL own) (hl : ls.size = nL) (B : Hp G M H0 H locs) (q1 : Cond.methodLink own idx yL_numbers ∈ tb) (hR : (rmm 5 117).frames + 1 ≤ R.frames ∧ 8 + (14 + 11) + (rmm 5 117).locals ≤ R.locals) (hcs : cells ≤ R.cells ∧ slots ≤ R.slots) (hW : (rest.map fun v => v.category).sum ≤ 8) (k_a1 : jK a1 = 7) (r_a2 : jR a2) (r_a3 : jR a3) (h : w_L_numbers N M a1 a2 a3 k) (hdg : decode cc pc = .ok (.invokestatic idx, 3)) (kk : ∀ (r : Int) (M' : jM), (r = 0 ∨ r = 1) → ∀ (H1 : Heap) (locs1 : List Loc), k r M' → Hp G M' H0 H1 locs1 → W p l e R s m args below meth c H1 locs1 cells slots Q (F0 m (pc + 3) ls (.int (jI r) :: rest))) : W p l e R s m args below meth c H locs cells slots Q (F0 m pc ls (.int (jI a3) :: .int (jI a2) :: .ref (jD G a1) :: rest)) :=
  jr_callZ B (jr_runS (As := [.ref (jD G a1), .int (jI a2), .int (jI a3)]) (n := 3) C hl B (m_L_numbers B.2.2 k_a1 r_a2 r_a3 h) q1 q_336 q_337 q_0 ⟨by decide, by decide, by decide +kernel⟩ rfl ⟨rfl, rfl⟩ hR hcs rfl hW hdg) (fun r M' H1 locs1 hr hk B1 => kk r M' hr H1 locs1 hk B1)
