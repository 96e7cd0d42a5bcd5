def lp_L_would_190 (N : Nat) (a1 : Int) (x2 : Int) (x85 : Int) (kx190 : Int → jM → Prop) : Nat → Int → Int → jM → Prop
  | 0, _, _, _ => False
  | n + 1, x89, x90, M91 => (w_X6_numbers N M91 a1 x85 x2 (fun x95 M96 => (if x90 < x95 then (w_X6_numberAt N M96 a1 x85 x2 x90 (fun x97 M98 => (jL (jW (x89 + x97)) (fun x99 => (jL (jW (x90 + 1)) (fun x100 => (lp_L_would_190 N a1 x2 x85 kx190 n x99 x100 M98))))))) else (kx190 x89 M96))))
def lp_L_would_154 (N : Nat) (a1 : Int) (x2 : Int) (x3 : Int) (kx154 : Int → Int → jM → Prop) : Nat → Int → Int → Int → jM → Prop
  | 0, _, _, _, _ => False
  | n + 1, x26, x27, x28, M29 => (w_X6_records M29 a1 (fun x84 => (if x28 < x84 then (if x3 = 0 then (w_X6_recordAt M29 a1 x28 (fun x85 => (w_X6_numbers N M29 a1 x85 x2 (fun x86 M87 => (jL (jW (x27 + x86)) (fun x88 => (lp_L_would_190 N a1 x2 x85 (fun (x92 : Int) (M93 : jM) => (jL (jW (x28 + 1)) (fun x94 => (lp_L_would_154 N a1 x2 x3 kx154 n x92 x88 x94 M93)))) N x26 0 M87))))))) else (kx154 x26 x27 M29)) else (kx154 x26 x27 M29))))
def w_L_would (N : Nat) (M : jM) (a1 : Int) (a2 : Int) (k : Int → jM → Prop) : Prop := (w_L_low a2 8 (fun x1 => (jL (jW (x1 - 1)) (fun x2 => (jL (fun (x3 : Int) => (w_X6_exploded N M a1 x2 (fun x5 M6 => (w_X6_total N M6 a1 x2 (-1) (fun x7 M8 => (w_L_low (jShr a2 3) 40 (fun x9 => (jL (jW (x9 - 1)) (fun x10 => (w_L_low (jShr a2 9) 5 (fun x11 => (jL (jW (x11 - 1)) (fun x12 => (w_L_low (jShr a2 11) 2 (fun x13 => (jL (fun (x14 : Int) => (w_X6_explodedAt N M8 a1 x2 x14 x10 x12 (fun x16 M17 => (w_L_low (jShr a2 5) 10 (fun x18 => (jL (jW (x18 - 1)) (fun x19 => (w_X6_total N M17 a1 x2 x19 (fun x20 M21 => (w_X6_repeated N M21 a1 x2 (fun x22 M23 => (jL (fun (x24 : Int) => (lp_L_would_154 N a1 x2 x3 (fun (x30 : Int) (x31 : Int) (M32 : jM) => (if x3 = 0 then (jL (fun (x33 : Int) (M35 : jM) => (jL (fun (x36 : Int) => (if x36 = 0 then (k x36 M35) else (if x24 = 0 then (if x10 ≤ 0 then (k x36 M35) else (if x10 < x5 then (w_X6_explodedAt N M35 a1 x2 x14 x10 0 (fun x38 M39 => (w_X6_explodedAt N M39 a1 x2 x14 (jW (x10 - 1)) 0 (fun x40 M41 => (w_X6_explodedAt N M41 a1 x2 x14 x10 1 (fun x42 M43 => (w_X6_explodedAt N M43 a1 x2 x14 (jW (x10 - 1)) 1 (fun x44 M45 => (if x14 = 0 then (if x40 ≤ x38 then (if x40 = x38 then (if x44 < x42 then (w_X6_explodedAt N M45 a1 x2 x14 x10 2 (fun x46 M47 => (w_X6_numberAt N M47 a1 x42 x2 x46 (fun x48 M49 => (if x48 = x38 then (k 1 M49) else (k 0 M49)))))) else (if x44 = x42 then (w_X6_explodedAt N M45 a1 x2 x14 (jW (x10 - 1)) 2 (fun x50 M51 => (w_X6_explodedAt N M51 a1 x2 x14 x10 2 (fun x52 M53 => (if x50 < x52 then (w_X6_explodedAt N M53 a1 x2 x14 x10 2 (fun x54 M55 => (w_X6_numberAt N M55 a1 x42 x2 x54 (fun x56 M57 => (if x56 = x38 then (k 1 M57) else (k 0 M57)))))) else (k 0 M53)))))) else (k 0 M45))) else (w_X6_explodedAt N M45 a1 x2 x14 x10 2 (fun x58 M59 => (w_X6_numberAt N M59 a1 x42 x2 x58 (fun x60 M61 => (if x60 = x38 then (k 1 M61) else (k 0 M61))))))) else (k 0 M45)) else (if x40 < x38 then (k 0 M45) else (if x40 = x38 then (if x44 < x42 then (w_X6_explodedAt N M45 a1 x2 x14 x10 2 (fun x62 M63 => (w_X6_numberAt N M63 a1 x42 x2 x62 (fun x64 M65 => (if x64 = x38 then (k 1 M65) else (k 0 M65)))))) else (if x44 = x42 then (w_X6_explodedAt N M45 a1 x2 x14 (jW (x10 - 1)) 2 (fun x66 M67 => (w_X6_explodedAt N M67 a1 x2 x14 x10 2 (fun x68 M69 => (if x66 < x68 then (w_X6_explodedAt N M69 a1 x2 x14 x10 2 (fun x70 M71 => (w_X6_numberAt N M71 a1 x42 x2 x70 (fun x72 M73 => (if x72 = x38 then (k 1 M73) else (k 0 M73)))))) else (k 0 M69)))))) else (k 0 M45))) else (w_X6_explodedAt N M45 a1 x2 x14 x10 2 (fun x74 M75 => (w_X6_numberAt N M75 a1 x42 x2 x74 (fun x76 M77 => (if x76 = x38 then (k 1 M77) else (k 0 M77))))))))))))))))) else (k x36 M35))) else (k x36 M35)))) (fun j375_37 => (if x33 = 0 then (j375_37 0) else (if x24 = 0 then (if x10 < x5 then (if x12 = 0 then (if x16 ≤ (-1000001) then (j375_37 0) else (j375_37 1)) else (if x12 = 1 then (if x16 < 0 then (j375_37 0) else (if x16 < 100 then (j375_37 1) else (j375_37 0))) else (if x16 < 0 then (j375_37 0) else (if x16 < 20 then (j375_37 1) else (j375_37 0))))) else (if x16 = (-1000007) then (j375_37 1) else (j375_37 0))) else (if x16 = (-1000002) then (j375_37 1) else (j375_37 0))))))) (fun j288_34 => (if x5 = x31 then (if x7 = x30 then (jL (if x22 < 0 then (j288_34 0 M32) else (if (jW (2 * x22)) ≤ x5 then (w_X6_mean N M32 a1 x2 (fun x79 M80 => (if x5 = 0 then (if (jFc .l x79 (FP.fconst0)) = 0 then (j288_34 1 M80) else (j288_34 0 M80)) else (vf_n32 (FP.fdiv (FP.i2f (jI x7)) (FP.i2f (jI x5))) ∧ (if (jFc .l x79 (FP.fdiv (FP.i2f (jI x7)) (FP.i2f (jI x5)))) = 0 then (j288_34 1 M80) else (j288_34 0 M80)))))) else (j288_34 0 M32))) (fun j302_78 => (if x19 = 8 then (if x20 = (-1000001) then (j302_78) else (j288_34 0 M32)) else (if x19 < 0 then (if x20 = x7 then (j302_78) else (j288_34 0 M32)) else (j302_78))))) else (j288_34 0 M32)) else (j288_34 0 M32)))) else (if x5 = (-1000001) then (if x7 = (-1000001) then (if x16 = (-1000001) then (if x20 = (-1000001) then (if x22 = (-1000001) then (w_X6_mean N M32 a1 x2 (fun x82 M83 => (if (jFc .l x82 3388220416) = 0 then (k 1 M83) else (k 0 M83)))) else (k 0 M32)) else (k 0 M32)) else (k 0 M32)) else (k 0 M32)) else (k 0 M32)))) N 0 0 0 M23)) (fun j124_25 => (if x10 < 0 then (j124_25 1) else (if x12 < 0 then (j124_25 1) else (if x12 ≤ 2 then (j124_25 0) else (j124_25 1))))))))))))))))) (fun j71_15 => (if x13 = 0 then (j71_15 1) else (j71_15 0))))))))))))))))))) (fun j10_4 => (if x2 < 0 then (j10_4 1) else (if x2 ≤ 5 then (j10_4 0) else (j10_4 1)))))))))
set_option maxHeartbeats 4000000 in
set_option maxRecDepth 100000 in
theorem m_L_would {l : Launch} {G : jG} {N : Nat} {M : jM} {a1 a2 : Int} {k : Int → jM → Prop} (o_M : jOK M) (k_a1 : jK a1 = 7) (r_a2 : jR a2) (h : w_L_would N M a1 a2 k) : Met l yL_would (wsG yL_would cL_would 21 (some .boolean)) (rmm 6 143) (jPc G M [.ref (jD G a1), .int (jI a2)]) (qZ G k) 0 0 (gA G) := by
  refine jm_start RL rfl (by decide) (Nat.le_of_ble_eq_true rfl) o_M ?_
  intro p e s m args below meth c ls C hr hlocks hl B
  have hl : lv_has ls 21 [(0, .ref (jD G a1)), (1, .int (jI a2))] := hl
  unfold w_L_would at h
  refine lv_iload_n C.1 C.2.1 dL_would_0 rfl (lv_at hl 1 rfl) ?_
  refine jr_bipush C dL_would_1 (by decide) ?_
  refine cl_L_low C hl.1 B q_220 ⟨Nat.le_of_ble_eq_true rfl, Nat.le_of_ble_eq_true rfl⟩ ⟨Nat.zero_le _, Nat.zero_le _⟩ (Nat.le_of_ble_eq_true rfl) r_a2 (jkc rfl) h dL_would_3 (fun x1 r_x1 _ _ h B => ?_)
  refine jr_iconst C dL_would_6 ?_
  refine jr_isub C dL_would_7 ?_
  refine jr_nm h (jW_R _) (fun x2 h r_x2 => ?_)
  refine lv_istore_n (lv' := [(2, .int (jI x2)), (0, .ref (jD G a1)), (1, .int (jI a2))]) C.1 C.2.1 dL_would_8 rfl hl (by decide) rfl (fun ls hl => ?_)
  refine lv_iload_n C.1 C.2.1 dL_would_9 rfl (lv_at hl 0 rfl) ?_
  obtain ⟨j10_4, hj10_4, h⟩ := jx_join (P := fun j10_4 : Int → Prop => ∀ (x3 : Int) (H : Heap) (locs : List Loc) (ls : Array Slot), j10_4 x3 → (x3 = 0 ∨ x3 = 1) → Hp G M s.heap H locs → lv_has ls 21 [(2, .int (jI x2)), (0, .ref (jD G a1)), (1, .int (jI a2))] → W p l e (rmm 6 143) s m args below meth c H locs 0 0 (MQ below (qZ G k) args s 0 0 (gA G)) (F0 m 23 ls [.int (jI x3)])) h (by
    intro x3 H locs ls h z_x3 B hl
    refine lv_istore_n (lv' := [(3, .int (jI x3)), (2, .int (jI x2)), (0, .ref (jD G a1)), (1, .int (jI a2))]) C.1 C.2.1 dL_would_23 rfl hl (by decide) rfl (fun ls hl => ?_)
    refine lv_aload_n C.1 C.2.1 dL_would_24 rfl (lv_at hl 2 rfl) ?_
    refine lv_iload_n C.1 C.2.1 dL_would_25 rfl (lv_at hl 1 rfl) ?_
    refine cl_X6_exploded C hl.1 B q_389 ⟨Nat.le_of_ble_eq_true rfl, Nat.le_of_ble_eq_true rfl⟩ ⟨Nat.zero_le _, Nat.zero_le _⟩ (Nat.le_of_ble_eq_true rfl) k_a1 r_x2 h dL_would_26 (fun x5 M6 r_x5 _ _ h B => ?_)
    have o_M6 := B.2.2
    refine lv_istore (lv' := [(4, .int (jI x5)), (3, .int (jI x3)), (2, .int (jI x2)), (0, .ref (jD G a1)), (1, .int (jI a2))]) C.1 C.2.1 dL_would_29 hl (by decide) rfl (fun ls hl => ?_)
    refine lv_aload_n C.1 C.2.1 dL_would_31 rfl (lv_at hl 3 rfl) ?_
    refine lv_iload_n C.1 C.2.1 dL_would_32 rfl (lv_at hl 2 rfl) ?_
    refine jr_iconst C dL_would_33 ?_
    refine cl_X6_total C hl.1 B q_397 ⟨Nat.le_of_ble_eq_true rfl, Nat.le_of_ble_eq_true rfl⟩ ⟨Nat.zero_le _, Nat.zero_le _⟩ (Nat.le_of_ble_eq_true rfl) k_a1 r_x2 (jkc rfl) h dL_would_34 (fun x7 M8 r_x7 _ _ h B => ?_)
    have o_M8 := B.2.2
    refine lv_istore (lv' := [(5, .int (jI x7)), (4, .int (jI x5)), (3, .int (jI x3)), (2, .int (jI x2)), (0, .ref (jD G a1)), (1, .int (jI a2))]) C.1 C.2.1 dL_would_37 hl (by decide) rfl (fun ls hl => ?_)
    refine lv_iload_n C.1 C.2.1 dL_would_39 rfl (lv_at hl 5 rfl) ?_
    refine jr_iconst C dL_would_40 ?_
    refine jr_ishr C dL_would_41 ?_
    refine jr_bipush C dL_would_42 (by decide) ?_
    refine cl_L_low C hl.1 B q_220 ⟨Nat.le_of_ble_eq_true rfl, Nat.le_of_ble_eq_true rfl⟩ ⟨Nat.zero_le _, Nat.zero_le _⟩ (Nat.le_of_ble_eq_true rfl) (jShr_R _ _) (jkc rfl) h dL_would_44 (fun x9 r_x9 _ _ h B => ?_)
    refine jr_iconst C dL_would_47 ?_
    refine jr_isub C dL_would_48 ?_
    refine jr_nm h (jW_R _) (fun x10 h r_x10 => ?_)
    refine lv_istore (lv' := [(6, .int (jI x10)), (5, .int (jI x7)), (4, .int (jI x5)), (3, .int (jI x3)), (2, .int (jI x2)), (0, .ref (jD G a1)), (1, .int (jI a2))]) C.1 C.2.1 dL_would_49 hl (by decide) rfl (fun ls hl => ?_)
    refine lv_iload_n C.1 C.2.1 dL_would_51 rfl (lv_at hl 6 rfl) ?_
    refine jr_bipush C dL_would_52 (by decide) ?_
    refine jr_ishr C dL_would_54 ?_
    refine jr_iconst C dL_would_55 ?_
    refine cl_L_low C hl.1 B q_220 ⟨Nat.le_of_ble_eq_true rfl, Nat.le_of_ble_eq_true rfl⟩ ⟨Nat.zero_le _, Nat.zero_le _⟩ (Nat.le_of_ble_eq_true rfl) (jShr_R _ _) (jkc rfl) h dL_would_56 (fun x11 r_x11 _ _ h B => ?_)
    refine jr_iconst C dL_would_59 ?_
    refine jr_isub C dL_would_60 ?_
    refine jr_nm h (jW_R _) (fun x12 h r_x12 => ?_)
    refine lv_istore (lv' := [(7, .int (jI x12)), (6, .int (jI x10)), (5, .int (jI x7)), (4, .int (jI x5)), (3, .int (jI x3)), (2, .int (jI x2)), (0, .ref (jD G a1)), (1, .int (jI a2))]) C.1 C.2.1 dL_would_61 hl (by decide) rfl (fun ls hl => ?_)
    refine lv_iload_n C.1 C.2.1 dL_would_63 rfl (lv_at hl 7 rfl) ?_
    refine jr_bipush C dL_would_64 (by decide) ?_
    refine jr_ishr C dL_would_66 ?_
    refine jr_iconst C dL_would_67 ?_
    refine cl_L_low C hl.1 B q_220 ⟨Nat.le_of_ble_eq_true rfl, Nat.le_of_ble_eq_true rfl⟩ ⟨Nat.zero_le _, Nat.zero_le _⟩ (Nat.le_of_ble_eq_true rfl) (jShr_R _ _) (jkc rfl) h dL_would_68 (fun x13 r_x13 _ _ h B => ?_)
    obtain ⟨j71_15, hj71_15, h⟩ := jx_join (P := fun j71_15 : Int → Prop => ∀ (x14 : Int) (H : Heap) (locs : List Loc) (ls : Array Slot), j71_15 x14 → (x14 = 0 ∨ x14 = 1) → Hp G M8 s.heap H locs → lv_has ls 21 [(7, .int (jI x12)), (6, .int (jI x10)), (5, .int (jI x7)), (4, .int (jI x5)), (3, .int (jI x3)), (2, .int (jI x2)), (0, .ref (jD G a1)), (1, .int (jI a2))] → W p l e (rmm 6 143) s m args below meth c H locs 0 0 (MQ below (qZ G k) args s 0 0 (gA G)) (F0 m 79 ls [.int (jI x14)])) h (by
      intro x14 H locs ls h z_x14 B hl
      refine lv_istore (lv' := [(8, .int (jI x14)), (7, .int (jI x12)), (6, .int (jI x10)), (5, .int (jI x7)), (4, .int (jI x5)), (3, .int (jI x3)), (2, .int (jI x2)), (0, .ref (jD G a1)), (1, .int (jI a2))]) C.1 C.2.1 dL_would_79 hl (by decide) rfl (fun ls hl => ?_)
      refine lv_aload_n C.1 C.2.1 dL_would_81 rfl (lv_at hl 7 rfl) ?_
      refine lv_iload_n C.1 C.2.1 dL_would_82 rfl (lv_at hl 6 rfl) ?_
      refine lv_iload C.1 C.2.1 dL_would_83 (lv_at hl 0 rfl) ?_
      refine lv_iload C.1 C.2.1 dL_would_85 (lv_at hl 2 rfl) ?_
      refine lv_iload C.1 C.2.1 dL_would_87 (lv_at hl 1 rfl) ?_
      refine cl_X6_explodedAt C hl.1 B q_406 ⟨Nat.le_of_ble_eq_true rfl, Nat.le_of_ble_eq_true rfl⟩ ⟨Nat.zero_le _, Nat.zero_le _⟩ (Nat.le_of_ble_eq_true rfl) k_a1 r_x2 z_x14 r_x10 r_x12 h dL_would_89 (fun x16 M17 r_x16 _ _ h B => ?_)
      have o_M17 := B.2.2
      refine lv_istore (lv' := [(9, .int (jI x16)), (8, .int (jI x14)), (7, .int (jI x12)), (6, .int (jI x10)), (5, .int (jI x7)), (4, .int (jI x5)), (3, .int (jI x3)), (2, .int (jI x2)), (0, .ref (jD G a1)), (1, .int (jI a2))]) C.1 C.2.1 dL_would_92 hl (by decide) rfl (fun ls hl => ?_)
      refine lv_iload_n C.1 C.2.1 dL_would_94 rfl (lv_at hl 9 rfl) ?_
      refine jr_iconst C dL_would_95 ?_
      refine jr_ishr C dL_would_96 ?_
      refine jr_bipush C dL_would_97 (by decide) ?_
      refine cl_L_low C hl.1 B q_220 ⟨Nat.le_of_ble_eq_true rfl, Nat.le_of_ble_eq_true rfl⟩ ⟨Nat.zero_le _, Nat.zero_le _⟩ (Nat.le_of_ble_eq_true rfl) (jShr_R _ _) (jkc rfl) h dL_would_99 (fun x18 r_x18 _ _ h B => ?_)
      refine jr_iconst C dL_would_102 ?_
      refine jr_isub C dL_would_103 ?_
      refine jr_nm h (jW_R _) (fun x19 h r_x19 => ?_)
      refine lv_istore (lv' := [(10, .int (jI x19)), (9, .int (jI x16)), (8, .int (jI x14)), (7, .int (jI x12)), (6, .int (jI x10)), (5, .int (jI x7)), (4, .int (jI x5)), (3, .int (jI x3)), (2, .int (jI x2)), (0, .ref (jD G a1)), (1, .int (jI a2))]) C.1 C.2.1 dL_would_104 hl (by decide) rfl (fun ls hl => ?_)
      refine lv_aload_n C.1 C.2.1 dL_would_106 rfl (lv_at hl 9 rfl) ?_
      refine lv_iload_n C.1 C.2.1 dL_would_107 rfl (lv_at hl 8 rfl) ?_
      refine lv_iload C.1 C.2.1 dL_would_108 (lv_at hl 0 rfl) ?_
      refine cl_X6_total C hl.1 B q_397 ⟨Nat.le_of_ble_eq_true rfl, Nat.le_of_ble_eq_true rfl⟩ ⟨Nat.zero_le _, Nat.zero_le _⟩ (Nat.le_of_ble_eq_true rfl) k_a1 r_x2 r_x19 h dL_would_110 (fun x20 M21 r_x20 _ _ h B => ?_)
      have o_M21 := B.2.2
      refine lv_istore (lv' := [(11, .int (jI x20)), (10, .int (jI x19)), (9, .int (jI x16)), (8, .int (jI x14)), (7, .int (jI x12)), (6, .int (jI x10)), (5, .int (jI x7)), (4, .int (jI x5)), (3, .int (jI x3)), (2, .int (jI x2)), (0, .ref (jD G a1)), (1, .int (jI a2))]) C.1 C.2.1 dL_would_113 hl (by decide) rfl (fun ls hl => ?_)
      refine lv_aload_n C.1 C.2.1 dL_would_115 rfl (lv_at hl 10 rfl) ?_
      refine lv_iload_n C.1 C.2.1 dL_would_116 rfl (lv_at hl 9 rfl) ?_
      refine cl_X6_repeated C hl.1 B q_430 ⟨Nat.le_of_ble_eq_true rfl, Nat.le_of_ble_eq_true rfl⟩ ⟨Nat.zero_le _, Nat.zero_le _⟩ (Nat.le_of_ble_eq_true rfl) k_a1 r_x2 h dL_would_117 (fun x22 M23 r_x22 _ _ h B => ?_)
      have o_M23 := B.2.2
      refine lv_istore (lv' := [(12, .int (jI x22)), (11, .int (jI x20)), (10, .int (jI x19)), (9, .int (jI x16)), (8, .int (jI x14)), (7, .int (jI x12)), (6, .int (jI x10)), (5, .int (jI x7)), (4, .int (jI x5)), (3, .int (jI x3)), (2, .int (jI x2)), (0, .ref (jD G a1)), (1, .int (jI a2))]) C.1 C.2.1 dL_would_120 hl (by decide) rfl (fun ls hl => ?_)
      refine lv_iload C.1 C.2.1 dL_would_122 (lv_at hl 6 rfl) ?_
      obtain ⟨j124_25, hj124_25, h⟩ := jx_join (P := fun j124_25 : Int → Prop => ∀ (x24 : Int) (H : Heap) (locs : List Loc) (ls : Array Slot), j124_25 x24 → (x24 = 0 ∨ x24 = 1) → Hp G M23 s.heap H locs → lv_has ls 21 [(12, .int (jI x22)), (11, .int (jI x20)), (10, .int (jI x19)), (9, .int (jI x16)), (8, .int (jI x14)), (7, .int (jI x12)), (6, .int (jI x10)), (5, .int (jI x7)), (4, .int (jI x5)), (3, .int (jI x3)), (2, .int (jI x2)), (0, .ref (jD G a1))] → W p l e (rmm 6 143) s m args below meth c H locs 0 0 (MQ below (qZ G k) args s 0 0 (gA G)) (F0 m 143 ls [.int (jI x24)])) h (by
        intro x24 H locs ls h z_x24 B hl
        refine lv_istore (lv' := [(13, .int (jI x24)), (12, .int (jI x22)), (11, .int (jI x20)), (10, .int (jI x19)), (9, .int (jI x16)), (8, .int (jI x14)), (7, .int (jI x12)), (6, .int (jI x10)), (5, .int (jI x7)), (4, .int (jI x5)), (3, .int (jI x3)), (2, .int (jI x2)), (0, .ref (jD G a1))]) C.1 C.2.1 dL_would_143 hl (by decide) rfl (fun ls hl => ?_)
        refine jr_iconst C dL_would_145 ?_
        refine lv_istore (lv' := [(14, .int (jI 0)), (13, .int (jI x24)), (12, .int (jI x22)), (11, .int (jI x20)), (10, .int (jI x19)), (9, .int (jI x16)), (8, .int (jI x14)), (7, .int (jI x12)), (6, .int (jI x10)), (5, .int (jI x7)), (4, .int (jI x5)), (3, .int (jI x3)), (2, .int (jI x2)), (0, .ref (jD G a1))]) C.1 C.2.1 dL_would_146 hl (by decide) rfl (fun ls hl => ?_)
        refine jr_iconst C dL_would_148 ?_
        refine lv_istore (lv' := [(15, .int (jI 0)), (14, .int (jI 0)), (13, .int (jI x24)), (12, .int (jI x22)), (11, .int (jI x20)), (10, .int (jI x19)), (9, .int (jI x16)), (8, .int (jI x14)), (7, .int (jI x12)), (6, .int (jI x10)), (5, .int (jI x7)), (4, .int (jI x5)), (3, .int (jI x3)), (2, .int (jI x2)), (0, .ref (jD G a1))]) C.1 C.2.1 dL_would_149 hl (by decide) rfl (fun ls hl => ?_)
        refine jr_iconst C dL_would_151 ?_
        refine lv_istore (lv' := [(16, .int (jI 0)), (15, .int (jI 0)), (14, .int (jI 0)), (13, .int (jI x24)), (12, .int (jI x22)), (11, .int (jI x20)), (10, .int (jI x19)), (9, .int (jI x16)), (8, .int (jI x14)), (7, .int (jI x12)), (6, .int (jI x10)), (5, .int (jI x7)), (4, .int (jI x5)), (3, .int (jI x3)), (2, .int (jI x2)), (0, .ref (jD G a1))]) C.1 C.2.1 dL_would_152 hl (by decide) rfl (fun ls hl => ?_)
        obtain ⟨kx154, hkx154, h⟩ : ∃ kx154 : Int → Int → jM → Prop, (∀ (x30 : Int) (x31 : Int) (M32 : jM) (H : Heap) (locs : List Loc) (ls : Array Slot), kx154 x30 x31 M32 → jR x30 → jR x31 → Hp G M32 s.heap H locs → lv_has ls 21 [(14, .int (jI x30)), (15, .int (jI x31)), (13, .int (jI x24)), (12, .int (jI x22)), (11, .int (jI x20)), (10, .int (jI x19)), (9, .int (jI x16)), (8, .int (jI x14)), (7, .int (jI x12)), (6, .int (jI x10)), (5, .int (jI x7)), (4, .int (jI x5)), (3, .int (jI x3)), (2, .int (jI x2)), (0, .ref (jD G a1))] → W p l e (rmm 6 143) s m args below meth c H locs 0 0 (MQ below (qZ G k) args s 0 0 (gA G)) (F0 m 228 ls [])) ∧ lp_L_would_154 N a1 x2 x3 kx154 N 0 0 0 M23 := by
          refine ⟨_, ?_, h⟩
          intro x30 x31 M32 H locs ls h r_x30 r_x31 B hl
          have o_M32 := B.2.2
          refine lv_iload_n C.1 C.2.1 dL_would_228 rfl (lv_at hl 12 rfl) ?_
          refine jr_if_eq (tgt := 284) C (zR z_x3) h dL_would_229 (by decide) (fun hc229 h => ?_) (fun hc229 h => ?_)
          · refine lv_iload C.1 C.2.1 dL_would_284 (lv_at hl 11 rfl) ?_
            refine lv_iload C.1 C.2.1 dL_would_286 (lv_at hl 1 rfl) ?_
            obtain ⟨j288_34, hj288_34, h⟩ := jx_join (P := fun j288_34 : Int → jM → Prop => ∀ (x33 : Int) (M35 : jM) (H : Heap) (locs : List Loc) (ls : Array Slot), j288_34 x33 M35 → (x33 = 0 ∨ x33 = 1) → Hp G M35 s.heap H locs → lv_has ls 21 [(13, .int (jI x24)), (9, .int (jI x16)), (8, .int (jI x14)), (7, .int (jI x12)), (6, .int (jI x10)), (4, .int (jI x5)), (2, .int (jI x2)), (0, .ref (jD G a1))] → W p l e (rmm 6 143) s m args below meth c H locs 0 0 (MQ below (qZ G k) args s 0 0 (gA G)) (F0 m 371 ls [.int (jI x33)])) h (by
              intro x33 M35 H locs ls h z_x33 B hl
              have o_M35 := B.2.2
              refine lv_istore (lv' := [(16, .int (jI x33)), (13, .int (jI x24)), (9, .int (jI x16)), (8, .int (jI x14)), (7, .int (jI x12)), (6, .int (jI x10)), (4, .int (jI x5)), (2, .int (jI x2)), (0, .ref (jD G a1))]) C.1 C.2.1 dL_would_371 hl (by decide) rfl (fun ls hl => ?_)
              refine lv_iload C.1 C.2.1 dL_would_373 (lv_at hl 0 rfl) ?_
              obtain ⟨j375_37, hj375_37, h⟩ := jx_join (P := fun j375_37 : Int → Prop => ∀ (x36 : Int) (H : Heap) (locs : List Loc) (ls : Array Slot), j375_37 x36 → (x36 = 0 ∨ x36 = 1) → Hp G M35 s.heap H locs → lv_has ls 21 [(13, .int (jI x24)), (8, .int (jI x14)), (6, .int (jI x10)), (4, .int (jI x5)), (2, .int (jI x2)), (0, .ref (jD G a1))] → W p l e (rmm 6 143) s m args below meth c H locs 0 0 (MQ below (qZ G k) args s 0 0 (gA G)) (F0 m 463 ls [.int (jI x36)])) h (by
                intro x36 H locs ls h z_x36 B hl
                refine lv_istore (lv' := [(16, .int (jI x36)), (13, .int (jI x24)), (8, .int (jI x14)), (6, .int (jI x10)), (4, .int (jI x5)), (2, .int (jI x2)), (0, .ref (jD G a1))]) C.1 C.2.1 dL_would_463 hl (by decide) rfl (fun ls hl => ?_)
                refine lv_iload C.1 C.2.1 dL_would_465 (lv_at hl 0 rfl) ?_
                refine jr_if_eq (tgt := 636) C (zR z_x36) h dL_would_467 (by decide) (fun hc467 h => ?_) (fun hc467 h => ?_)
                · refine lv_iload C.1 C.2.1 dL_would_636 (lv_at hl 0 rfl) ?_
                  exact jr_zret C B hr hlocks z_x36 h dL_would_638
                · refine lv_iload C.1 C.2.1 dL_would_470 (lv_at hl 1 rfl) ?_
                  refine jr_if_ne (tgt := 636) C (zR z_x24) h dL_would_472 (by decide) (fun hc472 h => ?_) (fun hc472 h => ?_)
                  · refine lv_iload C.1 C.2.1 dL_would_475 (lv_at hl 3 rfl) ?_
                    refine jr_if_le (tgt := 636) C r_x10 h dL_would_477 (by decide) (fun hc477 h => ?_) (fun hc477 h => ?_)
                    · refine lv_iload C.1 C.2.1 dL_would_636 (lv_at hl 0 rfl) ?_
                      exact jr_zret C B hr hlocks z_x36 h dL_would_638
                    · refine lv_iload C.1 C.2.1 dL_would_480 (lv_at hl 3 rfl) ?_
                      refine lv_iload C.1 C.2.1 dL_would_482 (lv_at hl 4 rfl) ?_
                      refine jr_icmp_ge (tgt := 636) C r_x10 r_x5 h dL_would_484 (by decide) (fun hc484 h => ?_) (fun hc484 h => ?_)
                      · refine lv_aload_n C.1 C.2.1 dL_would_487 rfl (lv_at hl 6 rfl) ?_
                        refine lv_iload_n C.1 C.2.1 dL_would_488 rfl (lv_at hl 5 rfl) ?_
                        refine lv_iload C.1 C.2.1 dL_would_489 (lv_at hl 2 rfl) ?_
                        refine lv_iload C.1 C.2.1 dL_would_491 (lv_at hl 3 rfl) ?_
                        refine jr_iconst C dL_would_493 ?_
                        refine cl_X6_explodedAt C hl.1 B q_406 ⟨Nat.le_of_ble_eq_true rfl, Nat.le_of_ble_eq_true rfl⟩ ⟨Nat.zero_le _, Nat.zero_le _⟩ (Nat.le_of_ble_eq_true rfl) k_a1 r_x2 z_x14 r_x10 (jkc rfl) h dL_would_494 (fun x38 M39 r_x38 _ _ h B => ?_)
                        have o_M39 := B.2.2
                        refine lv_istore (lv' := [(17, .int (jI x38)), (16, .int (jI x36)), (13, .int (jI x24)), (8, .int (jI x14)), (6, .int (jI x10)), (4, .int (jI x5)), (2, .int (jI x2)), (0, .ref (jD G a1))]) C.1 C.2.1 dL_would_497 hl (by decide) rfl (fun ls hl => ?_)
                        refine lv_aload_n C.1 C.2.1 dL_would_499 rfl (lv_at hl 7 rfl) ?_
                        refine lv_iload_n C.1 C.2.1 dL_would_500 rfl (lv_at hl 6 rfl) ?_
                        refine lv_iload C.1 C.2.1 dL_would_501 (lv_at hl 3 rfl) ?_
                        refine lv_iload C.1 C.2.1 dL_would_503 (lv_at hl 4 rfl) ?_
                        refine jr_iconst C dL_would_505 ?_
                        refine jr_isub C dL_would_506 ?_
                        refine jr_iconst C dL_would_507 ?_
                        refine cl_X6_explodedAt C hl.1 B q_406 ⟨Nat.le_of_ble_eq_true rfl, Nat.le_of_ble_eq_true rfl⟩ ⟨Nat.zero_le _, Nat.zero_le _⟩ (Nat.le_of_ble_eq_true rfl) k_a1 r_x2 z_x14 (jW_R _) (jkc rfl) h dL_would_508 (fun x40 M41 r_x40 _ _ h B => ?_)
                        have o_M41 := B.2.2
                        refine lv_istore (lv' := [(18, .int (jI x40)), (17, .int (jI x38)), (16, .int (jI x36)), (13, .int (jI x24)), (8, .int (jI x14)), (6, .int (jI x10)), (4, .int (jI x5)), (2, .int (jI x2)), (0, .ref (jD G a1))]) C.1 C.2.1 dL_would_511 hl (by decide) rfl (fun ls hl => ?_)
                        refine lv_aload_n C.1 C.2.1 dL_would_513 rfl (lv_at hl 8 rfl) ?_
                        refine lv_iload_n C.1 C.2.1 dL_would_514 rfl (lv_at hl 7 rfl) ?_
                        refine lv_iload C.1 C.2.1 dL_would_515 (lv_at hl 4 rfl) ?_
                        refine lv_iload C.1 C.2.1 dL_would_517 (lv_at hl 5 rfl) ?_
                        refine jr_iconst C dL_would_519 ?_
                        refine cl_X6_explodedAt C hl.1 B q_406 ⟨Nat.le_of_ble_eq_true rfl, Nat.le_of_ble_eq_true rfl⟩ ⟨Nat.zero_le _, Nat.zero_le _⟩ (Nat.le_of_ble_eq_true rfl) k_a1 r_x2 z_x14 r_x10 (jkc rfl) h dL_would_520 (fun x42 M43 r_x42 _ _ h B => ?_)
                        have o_M43 := B.2.2
                        refine lv_istore (lv' := [(19, .int (jI x42)), (18, .int (jI x40)), (17, .int (jI x38)), (16, .int (jI x36)), (13, .int (jI x24)), (8, .int (jI x14)), (6, .int (jI x10)), (4, .int (jI x5)), (2, .int (jI x2)), (0, .ref (jD G a1))]) C.1 C.2.1 dL_would_523 hl (by decide) rfl (fun ls hl => ?_)
                        refine lv_aload_n C.1 C.2.1 dL_would_525 rfl (lv_at hl 9 rfl) ?_
                        refine lv_iload_n C.1 C.2.1 dL_would_526 rfl (lv_at hl 8 rfl) ?_
                        refine lv_iload C.1 C.2.1 dL_would_527 (lv_at hl 5 rfl) ?_
                        refine lv_iload C.1 C.2.1 dL_would_529 (lv_at hl 6 rfl) ?_
                        refine jr_iconst C dL_would_531 ?_
                        refine jr_isub C dL_would_532 ?_
                        refine jr_iconst C dL_would_533 ?_
                        refine cl_X6_explodedAt C hl.1 B q_406 ⟨Nat.le_of_ble_eq_true rfl, Nat.le_of_ble_eq_true rfl⟩ ⟨Nat.zero_le _, Nat.zero_le _⟩ (Nat.le_of_ble_eq_true rfl) k_a1 r_x2 z_x14 (jW_R _) (jkc rfl) h dL_would_534 (fun x44 M45 r_x44 _ _ h B => ?_)
                        have o_M45 := B.2.2
                        refine lv_istore (lv' := [(20, .int (jI x44)), (19, .int (jI x42)), (18, .int (jI x40)), (17, .int (jI x38)), (16, .int (jI x36)), (13, .int (jI x24)), (8, .int (jI x14)), (6, .int (jI x10)), (4, .int (jI x5)), (2, .int (jI x2)), (0, .ref (jD G a1))]) C.1 C.2.1 dL_would_537 hl (by decide) rfl (fun ls hl => ?_)
                        refine lv_iload C.1 C.2.1 dL_would_539 (lv_at hl 6 rfl) ?_
                        refine jr_if_eq (tgt := 554) C (zR z_x14) h dL_would_541 (by decide) (fun hc541 h => ?_) (fun hc541 h => ?_)
                        · refine lv_iload C.1 C.2.1 dL_would_554 (lv_at hl 2 rfl) ?_
                          refine lv_iload C.1 C.2.1 dL_would_556 (lv_at hl 3 rfl) ?_
                          refine jr_icmp_gt (tgt := 633) C r_x40 r_x38 h dL_would_558 (by decide) (fun hc558 h => ?_) (fun hc558 h => ?_)
                          · refine lv_iload C.1 C.2.1 dL_would_561 (lv_at hl 2 rfl) ?_
                            refine lv_iload C.1 C.2.1 dL_would_563 (lv_at hl 3 rfl) ?_
                            refine jr_icmp_ne (tgt := 607) C r_x40 r_x38 h dL_would_565 (by decide) (fun hc565 h => ?_) (fun hc565 h => ?_)
                            · refine lv_iload C.1 C.2.1 dL_would_568 (lv_at hl 0 rfl) ?_
                              refine lv_iload C.1 C.2.1 dL_would_570 (lv_at hl 1 rfl) ?_
                              refine jr_icmp_lt (tgt := 607) C r_x44 r_x42 h dL_would_572 (by decide) (fun hc572 h => ?_) (fun hc572 h => ?_)
                              · refine lv_aload_n C.1 C.2.1 dL_would_607 rfl (lv_at hl 10 rfl) ?_
                                refine lv_iload C.1 C.2.1 dL_would_608 (lv_at hl 1 rfl) ?_
                                refine lv_iload_n C.1 C.2.1 dL_would_610 rfl (lv_at hl 9 rfl) ?_
                                refine lv_aload_n C.1 C.2.1 dL_would_611 rfl (lv_at hl 10 rfl) ?_
                                refine lv_iload_n C.1 C.2.1 dL_would_612 rfl (lv_at hl 9 rfl) ?_
                                refine lv_iload C.1 C.2.1 dL_would_613 (lv_at hl 6 rfl) ?_
                                refine lv_iload C.1 C.2.1 dL_would_615 (lv_at hl 7 rfl) ?_
                                refine jr_iconst C dL_would_617 ?_
                                refine cl_X6_explodedAt C hl.1 B q_406 ⟨Nat.le_of_ble_eq_true rfl, Nat.le_of_ble_eq_true rfl⟩ ⟨Nat.zero_le _, Nat.zero_le _⟩ (Nat.le_of_ble_eq_true rfl) k_a1 r_x2 z_x14 r_x10 (jkc rfl) h dL_would_618 (fun x46 M47 r_x46 _ _ h B => ?_)
                                have o_M47 := B.2.2
                                refine cl_X6_numberAt C hl.1 B q_338 ⟨Nat.le_of_ble_eq_true rfl, Nat.le_of_ble_eq_true rfl⟩ ⟨Nat.zero_le _, Nat.zero_le _⟩ (Nat.le_of_ble_eq_true rfl) k_a1 r_x42 r_x2 r_x46 h dL_would_621 (fun x48 M49 r_x48 _ _ h B => ?_)
                                have o_M49 := B.2.2
                                refine lv_iload C.1 C.2.1 dL_would_624 (lv_at hl 3 rfl) ?_
                                refine jr_icmp_ne (tgt := 633) C r_x48 r_x38 h dL_would_626 (by decide) (fun hc626 h => ?_) (fun hc626 h => ?_)
                                · refine jr_iconst C dL_would_629 ?_
                                  refine lv_goto (tgt := 634) C.1 C.2.1 dL_would_630 (by decide) ?_
                                  refine lv_istore (lv' := [(16, .int (jI 1)), (20, .int (jI x44)), (19, .int (jI x42)), (18, .int (jI x40)), (17, .int (jI x38)), (13, .int (jI x24)), (8, .int (jI x14)), (6, .int (jI x10)), (4, .int (jI x5)), (2, .int (jI x2)), (0, .ref (jD G a1))]) C.1 C.2.1 dL_would_634 hl (by decide) rfl (fun ls hl => ?_)
                                  refine lv_iload C.1 C.2.1 dL_would_636 (lv_at hl 0 rfl) ?_
                                  exact jr_zret C B hr hlocks (Or.inr rfl) h dL_would_638
                                · refine jr_iconst C dL_would_633 ?_
                                  refine lv_istore (lv' := [(16, .int (jI 0)), (20, .int (jI x44)), (19, .int (jI x42)), (18, .int (jI x40)), (17, .int (jI x38)), (13, .int (jI x24)), (8, .int (jI x14)), (6, .int (jI x10)), (4, .int (jI x5)), (2, .int (jI x2)), (0, .ref (jD G a1))]) C.1 C.2.1 dL_would_634 hl (by decide) rfl (fun ls hl => ?_)
                                  refine lv_iload C.1 C.2.1 dL_would_636 (lv_at hl 0 rfl) ?_
                                  exact jr_zret C B hr hlocks (Or.inl rfl) h dL_would_638
                              · refine lv_iload C.1 C.2.1 dL_would_575 (lv_at hl 0 rfl) ?_
                                refine lv_iload C.1 C.2.1 dL_would_577 (lv_at hl 1 rfl) ?_
                                refine jr_icmp_ne (tgt := 633) C r_x44 r_x42 h dL_would_579 (by decide) (fun hc579 h => ?_) (fun hc579 h => ?_)
                                · refine lv_aload_n C.1 C.2.1 dL_would_582 rfl (lv_at hl 10 rfl) ?_
                                  refine lv_iload_n C.1 C.2.1 dL_would_583 rfl (lv_at hl 9 rfl) ?_
                                  refine lv_iload C.1 C.2.1 dL_would_584 (lv_at hl 6 rfl) ?_
                                  refine lv_iload C.1 C.2.1 dL_would_586 (lv_at hl 7 rfl) ?_
                                  refine jr_iconst C dL_would_588 ?_
                                  refine jr_isub C dL_would_589 ?_
                                  refine jr_iconst C dL_would_590 ?_
                                  refine cl_X6_explodedAt C hl.1 B q_406 ⟨Nat.le_of_ble_eq_true rfl, Nat.le_of_ble_eq_true rfl⟩ ⟨Nat.zero_le _, Nat.zero_le _⟩ (Nat.le_of_ble_eq_true rfl) k_a1 r_x2 z_x14 (jW_R _) (jkc rfl) h dL_would_591 (fun x50 M51 r_x50 _ _ h B => ?_)
                                  have o_M51 := B.2.2
                                  refine lv_aload_n C.1 C.2.1 dL_would_594 rfl (lv_at hl 10 rfl) ?_
                                  refine lv_iload_n C.1 C.2.1 dL_would_595 rfl (lv_at hl 9 rfl) ?_
                                  refine lv_iload C.1 C.2.1 dL_would_596 (lv_at hl 6 rfl) ?_
                                  refine lv_iload C.1 C.2.1 dL_would_598 (lv_at hl 7 rfl) ?_
                                  refine jr_iconst C dL_would_600 ?_
                                  refine cl_X6_explodedAt C hl.1 B q_406 ⟨Nat.le_of_ble_eq_true rfl, Nat.le_of_ble_eq_true rfl⟩ ⟨Nat.zero_le _, Nat.zero_le _⟩ (Nat.le_of_ble_eq_true rfl) k_a1 r_x2 z_x14 r_x10 (jkc rfl) h dL_would_601 (fun x52 M53 r_x52 _ _ h B => ?_)
                                  have o_M53 := B.2.2
                                  refine jr_icmp_ge (tgt := 633) C r_x50 r_x52 h dL_would_604 (by decide) (fun hc604 h => ?_) (fun hc604 h => ?_)
                                  · refine lv_aload_n C.1 C.2.1 dL_would_607 rfl (lv_at hl 10 rfl) ?_
                                    refine lv_iload C.1 C.2.1 dL_would_608 (lv_at hl 1 rfl) ?_
                                    refine lv_iload_n C.1 C.2.1 dL_would_610 rfl (lv_at hl 9 rfl) ?_
                                    refine lv_aload_n C.1 C.2.1 dL_would_611 rfl (lv_at hl 10 rfl) ?_
                                    refine lv_iload_n C.1 C.2.1 dL_would_612 rfl (lv_at hl 9 rfl) ?_
                                    refine lv_iload C.1 C.2.1 dL_would_613 (lv_at hl 6 rfl) ?_
                                    refine lv_iload C.1 C.2.1 dL_would_615 (lv_at hl 7 rfl) ?_
                                    refine jr_iconst C dL_would_617 ?_
                                    refine cl_X6_explodedAt C hl.1 B q_406 ⟨Nat.le_of_ble_eq_true rfl, Nat.le_of_ble_eq_true rfl⟩ ⟨Nat.zero_le _, Nat.zero_le _⟩ (Nat.le_of_ble_eq_true rfl) k_a1 r_x2 z_x14 r_x10 (jkc rfl) h dL_would_618 (fun x54 M55 r_x54 _ _ h B => ?_)
                                    have o_M55 := B.2.2
                                    refine cl_X6_numberAt C hl.1 B q_338 ⟨Nat.le_of_ble_eq_true rfl, Nat.le_of_ble_eq_true rfl⟩ ⟨Nat.zero_le _, Nat.zero_le _⟩ (Nat.le_of_ble_eq_true rfl) k_a1 r_x42 r_x2 r_x54 h dL_would_621 (fun x56 M57 r_x56 _ _ h B => ?_)
                                    have o_M57 := B.2.2
                                    refine lv_iload C.1 C.2.1 dL_would_624 (lv_at hl 3 rfl) ?_
                                    refine jr_icmp_ne (tgt := 633) C r_x56 r_x38 h dL_would_626 (by decide) (fun hc626 h => ?_) (fun hc626 h => ?_)
                                    · refine jr_iconst C dL_would_629 ?_
                                      refine lv_goto (tgt := 634) C.1 C.2.1 dL_would_630 (by decide) ?_
                                      refine lv_istore (lv' := [(16, .int (jI 1)), (20, .int (jI x44)), (19, .int (jI x42)), (18, .int (jI x40)), (17, .int (jI x38)), (13, .int (jI x24)), (8, .int (jI x14)), (6, .int (jI x10)), (4, .int (jI x5)), (2, .int (jI x2)), (0, .ref (jD G a1))]) C.1 C.2.1 dL_would_634 hl (by decide) rfl (fun ls hl => ?_)
                                      refine lv_iload C.1 C.2.1 dL_would_636 (lv_at hl 0 rfl) ?_
                                      exact jr_zret C B hr hlocks (Or.inr rfl) h dL_would_638
                                    · refine jr_iconst C dL_would_633 ?_
                                      refine lv_istore (lv' := [(16, .int (jI 0)), (20, .int (jI x44)), (19, .int (jI x42)), (18, .int (jI x40)), (17, .int (jI x38)), (13, .int (jI x24)), (8, .int (jI x14)), (6, .int (jI x10)), (4, .int (jI x5)), (2, .int (jI x2)), (0, .ref (jD G a1))]) C.1 C.2.1 dL_would_634 hl (by decide) rfl (fun ls hl => ?_)
                                      refine lv_iload C.1 C.2.1 dL_would_636 (lv_at hl 0 rfl) ?_
                                      exact jr_zret C B hr hlocks (Or.inl rfl) h dL_would_638
                                  · refine jr_iconst C dL_would_633 ?_
                                    refine lv_istore (lv' := [(16, .int (jI 0)), (20, .int (jI x44)), (19, .int (jI x42)), (18, .int (jI x40)), (17, .int (jI x38)), (13, .int (jI x24)), (8, .int (jI x14)), (6, .int (jI x10)), (4, .int (jI x5)), (2, .int (jI x2)), (0, .ref (jD G a1))]) C.1 C.2.1 dL_would_634 hl (by decide) rfl (fun ls hl => ?_)
                                    refine lv_iload C.1 C.2.1 dL_would_636 (lv_at hl 0 rfl) ?_
                                    exact jr_zret C B hr hlocks (Or.inl rfl) h dL_would_638
                                · refine jr_iconst C dL_would_633 ?_
                                  refine lv_istore (lv' := [(16, .int (jI 0)), (20, .int (jI x44)), (19, .int (jI x42)), (18, .int (jI x40)), (17, .int (jI x38)), (13, .int (jI x24)), (8, .int (jI x14)), (6, .int (jI x10)), (4, .int (jI x5)), (2, .int (jI x2)), (0, .ref (jD G a1))]) C.1 C.2.1 dL_would_634 hl (by decide) rfl (fun ls hl => ?_)
                                  refine lv_iload C.1 C.2.1 dL_would_636 (lv_at hl 0 rfl) ?_
                                  exact jr_zret C B hr hlocks (Or.inl rfl) h dL_would_638
                            · refine lv_aload_n C.1 C.2.1 dL_would_607 rfl (lv_at hl 10 rfl) ?_
                              refine lv_iload C.1 C.2.1 dL_would_608 (lv_at hl 1 rfl) ?_
                              refine lv_iload_n C.1 C.2.1 dL_would_610 rfl (lv_at hl 9 rfl) ?_
                              refine lv_aload_n C.1 C.2.1 dL_would_611 rfl (lv_at hl 10 rfl) ?_
                              refine lv_iload_n C.1 C.2.1 dL_would_612 rfl (lv_at hl 9 rfl) ?_
                              refine lv_iload C.1 C.2.1 dL_would_613 (lv_at hl 6 rfl) ?_
                              refine lv_iload C.1 C.2.1 dL_would_615 (lv_at hl 7 rfl) ?_
                              refine jr_iconst C dL_would_617 ?_
                              refine cl_X6_explodedAt C hl.1 B q_406 ⟨Nat.le_of_ble_eq_true rfl, Nat.le_of_ble_eq_true rfl⟩ ⟨Nat.zero_le _, Nat.zero_le _⟩ (Nat.le_of_ble_eq_true rfl) k_a1 r_x2 z_x14 r_x10 (jkc rfl) h dL_would_618 (fun x58 M59 r_x58 _ _ h B => ?_)
                              have o_M59 := B.2.2
                              refine cl_X6_numberAt C hl.1 B q_338 ⟨Nat.le_of_ble_eq_true rfl, Nat.le_of_ble_eq_true rfl⟩ ⟨Nat.zero_le _, Nat.zero_le _⟩ (Nat.le_of_ble_eq_true rfl) k_a1 r_x42 r_x2 r_x58 h dL_would_621 (fun x60 M61 r_x60 _ _ h B => ?_)
                              have o_M61 := B.2.2
                              refine lv_iload C.1 C.2.1 dL_would_624 (lv_at hl 3 rfl) ?_
                              refine jr_icmp_ne (tgt := 633) C r_x60 r_x38 h dL_would_626 (by decide) (fun hc626 h => ?_) (fun hc626 h => ?_)
                              · refine jr_iconst C dL_would_629 ?_
                                refine lv_goto (tgt := 634) C.1 C.2.1 dL_would_630 (by decide) ?_
                                refine lv_istore (lv' := [(16, .int (jI 1)), (20, .int (jI x44)), (19, .int (jI x42)), (18, .int (jI x40)), (17, .int (jI x38)), (13, .int (jI x24)), (8, .int (jI x14)), (6, .int (jI x10)), (4, .int (jI x5)), (2, .int (jI x2)), (0, .ref (jD G a1))]) C.1 C.2.1 dL_would_634 hl (by decide) rfl (fun ls hl => ?_)
                                refine lv_iload C.1 C.2.1 dL_would_636 (lv_at hl 0 rfl) ?_
                                exact jr_zret C B hr hlocks (Or.inr rfl) h dL_would_638
                              · refine jr_iconst C dL_would_633 ?_
                                refine lv_istore (lv' := [(16, .int (jI 0)), (20, .int (jI x44)), (19, .int (jI x42)), (18, .int (jI x40)), (17, .int (jI x38)), (13, .int (jI x24)), (8, .int (jI x14)), (6, .int (jI x10)), (4, .int (jI x5)), (2, .int (jI x2)), (0, .ref (jD G a1))]) C.1 C.2.1 dL_would_634 hl (by decide) rfl (fun ls hl => ?_)
                                refine lv_iload C.1 C.2.1 dL_would_636 (lv_at hl 0 rfl) ?_
                                exact jr_zret C B hr hlocks (Or.inl rfl) h dL_would_638
                          · refine jr_iconst C dL_would_633 ?_
                            refine lv_istore (lv' := [(16, .int (jI 0)), (20, .int (jI x44)), (19, .int (jI x42)), (18, .int (jI x40)), (17, .int (jI x38)), (13, .int (jI x24)), (8, .int (jI x14)), (6, .int (jI x10)), (4, .int (jI x5)), (2, .int (jI x2)), (0, .ref (jD G a1))]) C.1 C.2.1 dL_would_634 hl (by decide) rfl (fun ls hl => ?_)
                            refine lv_iload C.1 C.2.1 dL_would_636 (lv_at hl 0 rfl) ?_
                            exact jr_zret C B hr hlocks (Or.inl rfl) h dL_would_638
                        · refine lv_iload C.1 C.2.1 dL_would_544 (lv_at hl 2 rfl) ?_
                          refine lv_iload C.1 C.2.1 dL_would_546 (lv_at hl 3 rfl) ?_
                          refine jr_icmp_lt (tgt := 633) C r_x40 r_x38 h dL_would_548 (by decide) (fun hc548 h => ?_) (fun hc548 h => ?_)
                          · refine jr_iconst C dL_would_633 ?_
                            refine lv_istore (lv' := [(16, .int (jI 0)), (20, .int (jI x44)), (19, .int (jI x42)), (18, .int (jI x40)), (17, .int (jI x38)), (13, .int (jI x24)), (8, .int (jI x14)), (6, .int (jI x10)), (4, .int (jI x5)), (2, .int (jI x2)), (0, .ref (jD G a1))]) C.1 C.2.1 dL_would_634 hl (by decide) rfl (fun ls hl => ?_)
                            refine lv_iload C.1 C.2.1 dL_would_636 (lv_at hl 0 rfl) ?_
                            exact jr_zret C B hr hlocks (Or.inl rfl) h dL_would_638
                          · refine lv_goto (tgt := 561) C.1 C.2.1 dL_would_551 (by decide) ?_
                            refine lv_iload C.1 C.2.1 dL_would_561 (lv_at hl 2 rfl) ?_
                            refine lv_iload C.1 C.2.1 dL_would_563 (lv_at hl 3 rfl) ?_
                            refine jr_icmp_ne (tgt := 607) C r_x40 r_x38 h dL_would_565 (by decide) (fun hc565 h => ?_) (fun hc565 h => ?_)
                            · refine lv_iload C.1 C.2.1 dL_would_568 (lv_at hl 0 rfl) ?_
                              refine lv_iload C.1 C.2.1 dL_would_570 (lv_at hl 1 rfl) ?_
                              refine jr_icmp_lt (tgt := 607) C r_x44 r_x42 h dL_would_572 (by decide) (fun hc572 h => ?_) (fun hc572 h => ?_)
                              · refine lv_aload_n C.1 C.2.1 dL_would_607 rfl (lv_at hl 10 rfl) ?_
                                refine lv_iload C.1 C.2.1 dL_would_608 (lv_at hl 1 rfl) ?_
                                refine lv_iload_n C.1 C.2.1 dL_would_610 rfl (lv_at hl 9 rfl) ?_
                                refine lv_aload_n C.1 C.2.1 dL_would_611 rfl (lv_at hl 10 rfl) ?_
                                refine lv_iload_n C.1 C.2.1 dL_would_612 rfl (lv_at hl 9 rfl) ?_
                                refine lv_iload C.1 C.2.1 dL_would_613 (lv_at hl 6 rfl) ?_
                                refine lv_iload C.1 C.2.1 dL_would_615 (lv_at hl 7 rfl) ?_
                                refine jr_iconst C dL_would_617 ?_
                                refine cl_X6_explodedAt C hl.1 B q_406 ⟨Nat.le_of_ble_eq_true rfl, Nat.le_of_ble_eq_true rfl⟩ ⟨Nat.zero_le _, Nat.zero_le _⟩ (Nat.le_of_ble_eq_true rfl) k_a1 r_x2 z_x14 r_x10 (jkc rfl) h dL_would_618 (fun x62 M63 r_x62 _ _ h B => ?_)
                                have o_M63 := B.2.2
                                refine cl_X6_numberAt C hl.1 B q_338 ⟨Nat.le_of_ble_eq_true rfl, Nat.le_of_ble_eq_true rfl⟩ ⟨Nat.zero_le _, Nat.zero_le _⟩ (Nat.le_of_ble_eq_true rfl) k_a1 r_x42 r_x2 r_x62 h dL_would_621 (fun x64 M65 r_x64 _ _ h B => ?_)
                                have o_M65 := B.2.2
                                refine lv_iload C.1 C.2.1 dL_would_624 (lv_at hl 3 rfl) ?_
                                refine jr_icmp_ne (tgt := 633) C r_x64 r_x38 h dL_would_626 (by decide) (fun hc626 h => ?_) (fun hc626 h => ?_)
                                · refine jr_iconst C dL_would_629 ?_
                                  refine lv_goto (tgt := 634) C.1 C.2.1 dL_would_630 (by decide) ?_
                                  refine lv_istore (lv' := [(16, .int (jI 1)), (20, .int (jI x44)), (19, .int (jI x42)), (18, .int (jI x40)), (17, .int (jI x38)), (13, .int (jI x24)), (8, .int (jI x14)), (6, .int (jI x10)), (4, .int (jI x5)), (2, .int (jI x2)), (0, .ref (jD G a1))]) C.1 C.2.1 dL_would_634 hl (by decide) rfl (fun ls hl => ?_)
                                  refine lv_iload C.1 C.2.1 dL_would_636 (lv_at hl 0 rfl) ?_
                                  exact jr_zret C B hr hlocks (Or.inr rfl) h dL_would_638
                                · refine jr_iconst C dL_would_633 ?_
                                  refine lv_istore (lv' := [(16, .int (jI 0)), (20, .int (jI x44)), (19, .int (jI x42)), (18, .int (jI x40)), (17, .int (jI x38)), (13, .int (jI x24)), (8, .int (jI x14)), (6, .int (jI x10)), (4, .int (jI x5)), (2, .int (jI x2)), (0, .ref (jD G a1))]) C.1 C.2.1 dL_would_634 hl (by decide) rfl (fun ls hl => ?_)
                                  refine lv_iload C.1 C.2.1 dL_would_636 (lv_at hl 0 rfl) ?_
                                  exact jr_zret C B hr hlocks (Or.inl rfl) h dL_would_638
                              · refine lv_iload C.1 C.2.1 dL_would_575 (lv_at hl 0 rfl) ?_
                                refine lv_iload C.1 C.2.1 dL_would_577 (lv_at hl 1 rfl) ?_
                                refine jr_icmp_ne (tgt := 633) C r_x44 r_x42 h dL_would_579 (by decide) (fun hc579 h => ?_) (fun hc579 h => ?_)
                                · refine lv_aload_n C.1 C.2.1 dL_would_582 rfl (lv_at hl 10 rfl) ?_
                                  refine lv_iload_n C.1 C.2.1 dL_would_583 rfl (lv_at hl 9 rfl) ?_
                                  refine lv_iload C.1 C.2.1 dL_would_584 (lv_at hl 6 rfl) ?_
                                  refine lv_iload C.1 C.2.1 dL_would_586 (lv_at hl 7 rfl) ?_
                                  refine jr_iconst C dL_would_588 ?_
                                  refine jr_isub C dL_would_589 ?_
                                  refine jr_iconst C dL_would_590 ?_
                                  refine cl_X6_explodedAt C hl.1 B q_406 ⟨Nat.le_of_ble_eq_true rfl, Nat.le_of_ble_eq_true rfl⟩ ⟨Nat.zero_le _, Nat.zero_le _⟩ (Nat.le_of_ble_eq_true rfl) k_a1 r_x2 z_x14 (jW_R _) (jkc rfl) h dL_would_591 (fun x66 M67 r_x66 _ _ h B => ?_)
                                  have o_M67 := B.2.2
                                  refine lv_aload_n C.1 C.2.1 dL_would_594 rfl (lv_at hl 10 rfl) ?_
                                  refine lv_iload_n C.1 C.2.1 dL_would_595 rfl (lv_at hl 9 rfl) ?_
                                  refine lv_iload C.1 C.2.1 dL_would_596 (lv_at hl 6 rfl) ?_
                                  refine lv_iload C.1 C.2.1 dL_would_598 (lv_at hl 7 rfl) ?_
                                  refine jr_iconst C dL_would_600 ?_
                                  refine cl_X6_explodedAt C hl.1 B q_406 ⟨Nat.le_of_ble_eq_true rfl, Nat.le_of_ble_eq_true rfl⟩ ⟨Nat.zero_le _, Nat.zero_le _⟩ (Nat.le_of_ble_eq_true rfl) k_a1 r_x2 z_x14 r_x10 (jkc rfl) h dL_would_601 (fun x68 M69 r_x68 _ _ h B => ?_)
                                  have o_M69 := B.2.2
                                  refine jr_icmp_ge (tgt := 633) C r_x66 r_x68 h dL_would_604 (by decide) (fun hc604 h => ?_) (fun hc604 h => ?_)
                                  · refine lv_aload_n C.1 C.2.1 dL_would_607 rfl (lv_at hl 10 rfl) ?_
                                    refine lv_iload C.1 C.2.1 dL_would_608 (lv_at hl 1 rfl) ?_
                                    refine lv_iload_n C.1 C.2.1 dL_would_610 rfl (lv_at hl 9 rfl) ?_
                                    refine lv_aload_n C.1 C.2.1 dL_would_611 rfl (lv_at hl 10 rfl) ?_
                                    refine lv_iload_n C.1 C.2.1 dL_would_612 rfl (lv_at hl 9 rfl) ?_
                                    refine lv_iload C.1 C.2.1 dL_would_613 (lv_at hl 6 rfl) ?_
                                    refine lv_iload C.1 C.2.1 dL_would_615 (lv_at hl 7 rfl) ?_
                                    refine jr_iconst C dL_would_617 ?_
                                    refine cl_X6_explodedAt C hl.1 B q_406 ⟨Nat.le_of_ble_eq_true rfl, Nat.le_of_ble_eq_true rfl⟩ ⟨Nat.zero_le _, Nat.zero_le _⟩ (Nat.le_of_ble_eq_true rfl) k_a1 r_x2 z_x14 r_x10 (jkc rfl) h dL_would_618 (fun x70 M71 r_x70 _ _ h B => ?_)
                                    have o_M71 := B.2.2
                                    refine cl_X6_numberAt C hl.1 B q_338 ⟨Nat.le_of_ble_eq_true rfl, Nat.le_of_ble_eq_true rfl⟩ ⟨Nat.zero_le _, Nat.zero_le _⟩ (Nat.le_of_ble_eq_true rfl) k_a1 r_x42 r_x2 r_x70 h dL_would_621 (fun x72 M73 r_x72 _ _ h B => ?_)
                                    have o_M73 := B.2.2
                                    refine lv_iload C.1 C.2.1 dL_would_624 (lv_at hl 3 rfl) ?_
                                    refine jr_icmp_ne (tgt := 633) C r_x72 r_x38 h dL_would_626 (by decide) (fun hc626 h => ?_) (fun hc626 h => ?_)
                                    · refine jr_iconst C dL_would_629 ?_
                                      refine lv_goto (tgt := 634) C.1 C.2.1 dL_would_630 (by decide) ?_
                                      refine lv_istore (lv' := [(16, .int (jI 1)), (20, .int (jI x44)), (19, .int (jI x42)), (18, .int (jI x40)), (17, .int (jI x38)), (13, .int (jI x24)), (8, .int (jI x14)), (6, .int (jI x10)), (4, .int (jI x5)), (2, .int (jI x2)), (0, .ref (jD G a1))]) C.1 C.2.1 dL_would_634 hl (by decide) rfl (fun ls hl => ?_)
                                      refine lv_iload C.1 C.2.1 dL_would_636 (lv_at hl 0 rfl) ?_
                                      exact jr_zret C B hr hlocks (Or.inr rfl) h dL_would_638
                                    · refine jr_iconst C dL_would_633 ?_
                                      refine lv_istore (lv' := [(16, .int (jI 0)), (20, .int (jI x44)), (19, .int (jI x42)), (18, .int (jI x40)), (17, .int (jI x38)), (13, .int (jI x24)), (8, .int (jI x14)), (6, .int (jI x10)), (4, .int (jI x5)), (2, .int (jI x2)), (0, .ref (jD G a1))]) C.1 C.2.1 dL_would_634 hl (by decide) rfl (fun ls hl => ?_)
                                      refine lv_iload C.1 C.2.1 dL_would_636 (lv_at hl 0 rfl) ?_
                                      exact jr_zret C B hr hlocks (Or.inl rfl) h dL_would_638
                                  · refine jr_iconst C dL_would_633 ?_
                                    refine lv_istore (lv' := [(16, .int (jI 0)), (20, .int (jI x44)), (19, .int (jI x42)), (18, .int (jI x40)), (17, .int (jI x38)), (13, .int (jI x24)), (8, .int (jI x14)), (6, .int (jI x10)), (4, .int (jI x5)), (2, .int (jI x2)), (0, .ref (jD G a1))]) C.1 C.2.1 dL_would_634 hl (by decide) rfl (fun ls hl => ?_)
                                    refine lv_iload C.1 C.2.1 dL_would_636 (lv_at hl 0 rfl) ?_
                                    exact jr_zret C B hr hlocks (Or.inl rfl) h dL_would_638
                                · refine jr_iconst C dL_would_633 ?_
                                  refine lv_istore (lv' := [(16, .int (jI 0)), (20, .int (jI x44)), (19, .int (jI x42)), (18, .int (jI x40)), (17, .int (jI x38)), (13, .int (jI x24)), (8, .int (jI x14)), (6, .int (jI x10)), (4, .int (jI x5)), (2, .int (jI x2)), (0, .ref (jD G a1))]) C.1 C.2.1 dL_would_634 hl (by decide) rfl (fun ls hl => ?_)
                                  refine lv_iload C.1 C.2.1 dL_would_636 (lv_at hl 0 rfl) ?_
                                  exact jr_zret C B hr hlocks (Or.inl rfl) h dL_would_638
                            · refine lv_aload_n C.1 C.2.1 dL_would_607 rfl (lv_at hl 10 rfl) ?_
                              refine lv_iload C.1 C.2.1 dL_would_608 (lv_at hl 1 rfl) ?_
                              refine lv_iload_n C.1 C.2.1 dL_would_610 rfl (lv_at hl 9 rfl) ?_
                              refine lv_aload_n C.1 C.2.1 dL_would_611 rfl (lv_at hl 10 rfl) ?_
                              refine lv_iload_n C.1 C.2.1 dL_would_612 rfl (lv_at hl 9 rfl) ?_
                              refine lv_iload C.1 C.2.1 dL_would_613 (lv_at hl 6 rfl) ?_
                              refine lv_iload C.1 C.2.1 dL_would_615 (lv_at hl 7 rfl) ?_
                              refine jr_iconst C dL_would_617 ?_
                              refine cl_X6_explodedAt C hl.1 B q_406 ⟨Nat.le_of_ble_eq_true rfl, Nat.le_of_ble_eq_true rfl⟩ ⟨Nat.zero_le _, Nat.zero_le _⟩ (Nat.le_of_ble_eq_true rfl) k_a1 r_x2 z_x14 r_x10 (jkc rfl) h dL_would_618 (fun x74 M75 r_x74 _ _ h B => ?_)
                              have o_M75 := B.2.2
                              refine cl_X6_numberAt C hl.1 B q_338 ⟨Nat.le_of_ble_eq_true rfl, Nat.le_of_ble_eq_true rfl⟩ ⟨Nat.zero_le _, Nat.zero_le _⟩ (Nat.le_of_ble_eq_true rfl) k_a1 r_x42 r_x2 r_x74 h dL_would_621 (fun x76 M77 r_x76 _ _ h B => ?_)
                              have o_M77 := B.2.2
                              refine lv_iload C.1 C.2.1 dL_would_624 (lv_at hl 3 rfl) ?_
                              refine jr_icmp_ne (tgt := 633) C r_x76 r_x38 h dL_would_626 (by decide) (fun hc626 h => ?_) (fun hc626 h => ?_)
                              · refine jr_iconst C dL_would_629 ?_
                                refine lv_goto (tgt := 634) C.1 C.2.1 dL_would_630 (by decide) ?_
                                refine lv_istore (lv' := [(16, .int (jI 1)), (20, .int (jI x44)), (19, .int (jI x42)), (18, .int (jI x40)), (17, .int (jI x38)), (13, .int (jI x24)), (8, .int (jI x14)), (6, .int (jI x10)), (4, .int (jI x5)), (2, .int (jI x2)), (0, .ref (jD G a1))]) C.1 C.2.1 dL_would_634 hl (by decide) rfl (fun ls hl => ?_)
                                refine lv_iload C.1 C.2.1 dL_would_636 (lv_at hl 0 rfl) ?_
                                exact jr_zret C B hr hlocks (Or.inr rfl) h dL_would_638
                              · refine jr_iconst C dL_would_633 ?_
                                refine lv_istore (lv' := [(16, .int (jI 0)), (20, .int (jI x44)), (19, .int (jI x42)), (18, .int (jI x40)), (17, .int (jI x38)), (13, .int (jI x24)), (8, .int (jI x14)), (6, .int (jI x10)), (4, .int (jI x5)), (2, .int (jI x2)), (0, .ref (jD G a1))]) C.1 C.2.1 dL_would_634 hl (by decide) rfl (fun ls hl => ?_)
                                refine lv_iload C.1 C.2.1 dL_would_636 (lv_at hl 0 rfl) ?_
                                exact jr_zret C B hr hlocks (Or.inl rfl) h dL_would_638
                      · refine lv_iload C.1 C.2.1 dL_would_636 (lv_at hl 0 rfl) ?_
                        exact jr_zret C B hr hlocks z_x36 h dL_would_638
                  · refine lv_iload C.1 C.2.1 dL_would_636 (lv_at hl 0 rfl) ?_
                    exact jr_zret C B hr hlocks z_x36 h dL_would_638)
              refine jr_if_eq (tgt := 462) C (zR z_x33) h dL_would_375 (by decide) (fun hc375 h => ?_) (fun hc375 h => ?_)
              · refine jr_iconst C dL_would_462 ?_
                exact hj375_37 _ _ _ _ h (Or.inl rfl) B (lv_sub hl [1, 3, 5, 6, 7, 8] rfl)
              · refine lv_iload C.1 C.2.1 dL_would_378 (lv_at hl 1 rfl) ?_
                refine jr_if_eq (tgt := 393) C (zR z_x24) h dL_would_380 (by decide) (fun hc380 h => ?_) (fun hc380 h => ?_)
                · refine lv_iload C.1 C.2.1 dL_would_393 (lv_at hl 5 rfl) ?_
                  refine lv_iload C.1 C.2.1 dL_would_395 (lv_at hl 6 rfl) ?_
                  refine jr_icmp_lt (tgt := 410) C r_x10 r_x5 h dL_would_397 (by decide) (fun hc397 h => ?_) (fun hc397 h => ?_)
                  · refine lv_iload C.1 C.2.1 dL_would_410 (lv_at hl 4 rfl) ?_
                    refine jr_if_ne (tgt := 425) C r_x12 h dL_would_412 (by decide) (fun hc412 h => ?_) (fun hc412 h => ?_)
                    · refine lv_iload C.1 C.2.1 dL_would_415 (lv_at hl 2 rfl) ?_
                      refine jr_ldc (n := -1000001) C q_315 (by decide) dL_would_417 ?_
                      refine jr_icmp_le (tgt := 462) C r_x16 (jkc rfl) h dL_would_419 (by decide) (fun hc419 h => ?_) (fun hc419 h => ?_)
                      · refine jr_iconst C dL_would_462 ?_
                        exact hj375_37 _ _ _ _ h (Or.inl rfl) B (lv_sub hl [1, 3, 5, 6, 7, 8] rfl)
                      · refine lv_goto (tgt := 458) C.1 C.2.1 dL_would_422 (by decide) ?_
                        refine jr_iconst C dL_would_458 ?_
                        refine lv_goto (tgt := 463) C.1 C.2.1 dL_would_459 (by decide) ?_
                        exact hj375_37 _ _ _ _ h (Or.inr rfl) B (lv_sub hl [1, 3, 5, 6, 7, 8] rfl)
                    · refine lv_iload C.1 C.2.1 dL_would_425 (lv_at hl 4 rfl) ?_
                      refine jr_iconst C dL_would_427 ?_
                      refine jr_icmp_ne (tgt := 446) C r_x12 (jkc rfl) h dL_would_428 (by decide) (fun hc428 h => ?_) (fun hc428 h => ?_)
                      · refine lv_iload C.1 C.2.1 dL_would_431 (lv_at hl 2 rfl) ?_
                        refine jr_if_lt (tgt := 462) C r_x16 h dL_would_433 (by decide) (fun hc433 h => ?_) (fun hc433 h => ?_)
                        · refine jr_iconst C dL_would_462 ?_
                          exact hj375_37 _ _ _ _ h (Or.inl rfl) B (lv_sub hl [1, 3, 5, 6, 7, 8] rfl)
                        · refine lv_iload C.1 C.2.1 dL_would_436 (lv_at hl 2 rfl) ?_
                          refine jr_bipush C dL_would_438 (by decide) ?_
                          refine jr_icmp_ge (tgt := 462) C r_x16 (jkc rfl) h dL_would_440 (by decide) (fun hc440 h => ?_) (fun hc440 h => ?_)
                          · refine lv_goto (tgt := 458) C.1 C.2.1 dL_would_443 (by decide) ?_
                            refine jr_iconst C dL_would_458 ?_
                            refine lv_goto (tgt := 463) C.1 C.2.1 dL_would_459 (by decide) ?_
                            exact hj375_37 _ _ _ _ h (Or.inr rfl) B (lv_sub hl [1, 3, 5, 6, 7, 8] rfl)
                          · refine jr_iconst C dL_would_462 ?_
                            exact hj375_37 _ _ _ _ h (Or.inl rfl) B (lv_sub hl [1, 3, 5, 6, 7, 8] rfl)
                      · refine lv_iload C.1 C.2.1 dL_would_446 (lv_at hl 2 rfl) ?_
                        refine jr_if_lt (tgt := 462) C r_x16 h dL_would_448 (by decide) (fun hc448 h => ?_) (fun hc448 h => ?_)
                        · refine jr_iconst C dL_would_462 ?_
                          exact hj375_37 _ _ _ _ h (Or.inl rfl) B (lv_sub hl [1, 3, 5, 6, 7, 8] rfl)
                        · refine lv_iload C.1 C.2.1 dL_would_451 (lv_at hl 2 rfl) ?_
                          refine jr_bipush C dL_would_453 (by decide) ?_
                          refine jr_icmp_ge (tgt := 462) C r_x16 (jkc rfl) h dL_would_455 (by decide) (fun hc455 h => ?_) (fun hc455 h => ?_)
                          · refine jr_iconst C dL_would_458 ?_
                            refine lv_goto (tgt := 463) C.1 C.2.1 dL_would_459 (by decide) ?_
                            exact hj375_37 _ _ _ _ h (Or.inr rfl) B (lv_sub hl [1, 3, 5, 6, 7, 8] rfl)
                          · refine jr_iconst C dL_would_462 ?_
                            exact hj375_37 _ _ _ _ h (Or.inl rfl) B (lv_sub hl [1, 3, 5, 6, 7, 8] rfl)
                  · refine lv_iload C.1 C.2.1 dL_would_400 (lv_at hl 2 rfl) ?_
                    refine jr_ldc (n := -1000007) C q_313 (by decide) dL_would_402 ?_
                    refine jr_icmp_ne (tgt := 462) C r_x16 (jkc rfl) h dL_would_404 (by decide) (fun hc404 h => ?_) (fun hc404 h => ?_)
                    · refine lv_goto (tgt := 458) C.1 C.2.1 dL_would_407 (by decide) ?_
                      refine jr_iconst C dL_would_458 ?_
                      refine lv_goto (tgt := 463) C.1 C.2.1 dL_would_459 (by decide) ?_
                      exact hj375_37 _ _ _ _ h (Or.inr rfl) B (lv_sub hl [1, 3, 5, 6, 7, 8] rfl)
                    · refine jr_iconst C dL_would_462 ?_
                      exact hj375_37 _ _ _ _ h (Or.inl rfl) B (lv_sub hl [1, 3, 5, 6, 7, 8] rfl)
                · refine lv_iload C.1 C.2.1 dL_would_383 (lv_at hl 2 rfl) ?_
                  refine jr_ldc (n := -1000002) C q_314 (by decide) dL_would_385 ?_
                  refine jr_icmp_ne (tgt := 462) C r_x16 (jkc rfl) h dL_would_387 (by decide) (fun hc387 h => ?_) (fun hc387 h => ?_)
                  · refine lv_goto (tgt := 458) C.1 C.2.1 dL_would_390 (by decide) ?_
                    refine jr_iconst C dL_would_458 ?_
                    refine lv_goto (tgt := 463) C.1 C.2.1 dL_would_459 (by decide) ?_
                    exact hj375_37 _ _ _ _ h (Or.inr rfl) B (lv_sub hl [1, 3, 5, 6, 7, 8] rfl)
                  · refine jr_iconst C dL_would_462 ?_
                    exact hj375_37 _ _ _ _ h (Or.inl rfl) B (lv_sub hl [1, 3, 5, 6, 7, 8] rfl))
            refine jr_icmp_ne (tgt := 370) C r_x5 r_x31 h dL_would_288 (by decide) (fun hc288 h => ?_) (fun hc288 h => ?_)
            · refine lv_iload C.1 C.2.1 dL_would_291 (lv_at hl 10 rfl) ?_
              refine lv_iload C.1 C.2.1 dL_would_293 (lv_at hl 0 rfl) ?_
              refine jr_icmp_ne (tgt := 370) C r_x7 r_x30 h dL_would_295 (by decide) (fun hc295 h => ?_) (fun hc295 h => ?_)
              · refine lv_iload C.1 C.2.1 dL_would_298 (lv_at hl 5 rfl) ?_
                refine jr_bipush C dL_would_300 (by decide) ?_
                obtain ⟨j302_78, hj302_78, h⟩ := jx_join (P := fun j302_78 : Prop => ∀ (H : Heap) (locs : List Loc) (ls : Array Slot), j302_78 → Hp G M32 s.heap H locs → lv_has ls 21 [(13, .int (jI x24)), (12, .int (jI x22)), (9, .int (jI x16)), (8, .int (jI x14)), (7, .int (jI x12)), (6, .int (jI x10)), (5, .int (jI x7)), (4, .int (jI x5)), (2, .int (jI x2)), (0, .ref (jD G a1))] → W p l e (rmm 6 143) s m args below meth c H locs 0 0 (MQ below (qZ G k) args s 0 0 (gA G)) (F0 m 327 ls [])) h (by
                  intro H locs ls h  B hl
                  refine lv_iload C.1 C.2.1 dL_would_327 (lv_at hl 1 rfl) ?_
                  refine jr_if_lt (tgt := 370) C r_x22 h dL_would_329 (by decide) (fun hc329 h => ?_) (fun hc329 h => ?_)
                  · refine jr_iconst C dL_would_370 ?_
                    exact hj288_34 _ _ _ _ _ h (Or.inl rfl) B (lv_sub hl [0, 2, 3, 4, 5, 7, 8, 9] rfl)
                  · refine jr_iconst C dL_would_332 ?_
                    refine lv_iload C.1 C.2.1 dL_would_333 (lv_at hl 1 rfl) ?_
                    refine jr_imul C dL_would_335 ?_
                    refine lv_iload C.1 C.2.1 dL_would_336 (lv_at hl 7 rfl) ?_
                    refine jr_icmp_gt (tgt := 370) C (jW_R _) r_x5 h dL_would_338 (by decide) (fun hc338 h => ?_) (fun hc338 h => ?_)
                    · refine lv_aload_n C.1 C.2.1 dL_would_341 rfl (lv_at hl 9 rfl) ?_
                      refine lv_iload_n C.1 C.2.1 dL_would_342 rfl (lv_at hl 8 rfl) ?_
                      refine cl_X6_mean C hl.1 B q_434 ⟨Nat.le_of_ble_eq_true rfl, Nat.le_of_ble_eq_true rfl⟩ ⟨Nat.zero_le _, Nat.zero_le _⟩ (Nat.le_of_ble_eq_true rfl) k_a1 r_x2 h dL_would_343 (fun x79 M80 _ _ h B => ?_)
                      have o_M80 := B.2.2
                      refine lv_iload C.1 C.2.1 dL_would_346 (lv_at hl 7 rfl) ?_
                      refine jr_if_ne (tgt := 355) C r_x5 h dL_would_348 (by decide) (fun hc348 h => ?_) (fun hc348 h => ?_)
                      · refine lv_fconst0 C.1 C.2.1 dL_would_351 ?_
                        refine lv_goto (tgt := 362) C.1 C.2.1 dL_would_352 (by decide) ?_
                        refine jr_fcmp C dL_would_362 ?_
                        refine jr_if_ne (tgt := 370) C (jR_of _) h dL_would_363 (by decide) (fun hc363 h => ?_) (fun hc363 h => ?_)
                        · refine jr_iconst C dL_would_366 ?_
                          refine lv_goto (tgt := 371) C.1 C.2.1 dL_would_367 (by decide) ?_
                          exact hj288_34 _ _ _ _ _ h (Or.inr rfl) B (lv_sub hl [0, 2, 3, 4, 5, 7, 8, 9] rfl)
                        · refine jr_iconst C dL_would_370 ?_
                          exact hj288_34 _ _ _ _ _ h (Or.inl rfl) B (lv_sub hl [0, 2, 3, 4, 5, 7, 8, 9] rfl)
                      · refine lv_iload C.1 C.2.1 dL_would_355 (lv_at hl 6 rfl) ?_
                        refine lv_i2f C.1 C.2.1 dL_would_357 ?_
                        refine lv_iload C.1 C.2.1 dL_would_358 (lv_at hl 7 rfl) ?_
                        refine lv_i2f C.1 C.2.1 dL_would_360 ?_
                        obtain ⟨g81, h⟩ := h
                        refine lv_fdiv C.1 C.2.1 dL_would_361 g81 ?_
                        refine jr_fcmp C dL_would_362 ?_
                        refine jr_if_ne (tgt := 370) C (jR_of _) h dL_would_363 (by decide) (fun hc363 h => ?_) (fun hc363 h => ?_)
                        · refine jr_iconst C dL_would_366 ?_
                          refine lv_goto (tgt := 371) C.1 C.2.1 dL_would_367 (by decide) ?_
                          exact hj288_34 _ _ _ _ _ h (Or.inr rfl) B (lv_sub hl [0, 2, 3, 4, 5, 7, 8, 9] rfl)
                        · refine jr_iconst C dL_would_370 ?_
                          exact hj288_34 _ _ _ _ _ h (Or.inl rfl) B (lv_sub hl [0, 2, 3, 4, 5, 7, 8, 9] rfl)
                    · refine jr_iconst C dL_would_370 ?_
                      exact hj288_34 _ _ _ _ _ h (Or.inl rfl) B (lv_sub hl [0, 2, 3, 4, 5, 7, 8, 9] rfl))
                refine jr_icmp_ne (tgt := 315) C r_x19 (jkc rfl) h dL_would_302 (by decide) (fun hc302 h => ?_) (fun hc302 h => ?_)
                · refine lv_iload C.1 C.2.1 dL_would_305 (lv_at hl 4 rfl) ?_
                  refine jr_ldc (n := -1000001) C q_315 (by decide) dL_would_307 ?_
                  refine jr_icmp_ne (tgt := 370) C r_x20 (jkc rfl) h dL_would_309 (by decide) (fun hc309 h => ?_) (fun hc309 h => ?_)
                  · refine lv_goto (tgt := 327) C.1 C.2.1 dL_would_312 (by decide) ?_
                    exact hj302_78 _ _ _ h  B (lv_sub hl [2, 3, 6, 7, 8, 9, 10, 11, 13, 14] rfl)
                  · refine jr_iconst C dL_would_370 ?_
                    exact hj288_34 _ _ _ _ _ h (Or.inl rfl) B (lv_sub hl [2, 6, 7, 8, 9, 11, 13, 14] rfl)
                · refine lv_iload C.1 C.2.1 dL_would_315 (lv_at hl 5 rfl) ?_
                  refine jr_if_ge (tgt := 327) C r_x19 h dL_would_317 (by decide) (fun hc317 h => ?_) (fun hc317 h => ?_)
                  · refine lv_iload C.1 C.2.1 dL_would_320 (lv_at hl 4 rfl) ?_
                    refine lv_iload C.1 C.2.1 dL_would_322 (lv_at hl 10 rfl) ?_
                    refine jr_icmp_ne (tgt := 370) C r_x20 r_x7 h dL_would_324 (by decide) (fun hc324 h => ?_) (fun hc324 h => ?_)
                    · exact hj302_78 _ _ _ h  B (lv_sub hl [2, 3, 6, 7, 8, 9, 10, 11, 13, 14] rfl)
                    · refine jr_iconst C dL_would_370 ?_
                      exact hj288_34 _ _ _ _ _ h (Or.inl rfl) B (lv_sub hl [2, 6, 7, 8, 9, 11, 13, 14] rfl)
                  · exact hj302_78 _ _ _ h  B (lv_sub hl [2, 3, 6, 7, 8, 9, 10, 11, 13, 14] rfl)
              · refine jr_iconst C dL_would_370 ?_
                exact hj288_34 _ _ _ _ _ h (Or.inl rfl) B (lv_sub hl [2, 6, 7, 8, 9, 11, 13, 14] rfl)
            · refine jr_iconst C dL_would_370 ?_
              exact hj288_34 _ _ _ _ _ h (Or.inl rfl) B (lv_sub hl [2, 6, 7, 8, 9, 11, 13, 14] rfl)
          · refine lv_iload C.1 C.2.1 dL_would_232 (lv_at hl 11 rfl) ?_
            refine jr_ldc (n := -1000001) C q_315 (by decide) dL_would_234 ?_
            refine jr_icmp_ne (tgt := 282) C r_x5 (jkc rfl) h dL_would_236 (by decide) (fun hc236 h => ?_) (fun hc236 h => ?_)
            · refine lv_iload C.1 C.2.1 dL_would_239 (lv_at hl 10 rfl) ?_
              refine jr_ldc (n := -1000001) C q_315 (by decide) dL_would_241 ?_
              refine jr_icmp_ne (tgt := 282) C r_x7 (jkc rfl) h dL_would_243 (by decide) (fun hc243 h => ?_) (fun hc243 h => ?_)
              · refine lv_iload C.1 C.2.1 dL_would_246 (lv_at hl 6 rfl) ?_
                refine jr_ldc (n := -1000001) C q_315 (by decide) dL_would_248 ?_
                refine jr_icmp_ne (tgt := 282) C r_x16 (jkc rfl) h dL_would_250 (by decide) (fun hc250 h => ?_) (fun hc250 h => ?_)
                · refine lv_iload C.1 C.2.1 dL_would_253 (lv_at hl 4 rfl) ?_
                  refine jr_ldc (n := -1000001) C q_315 (by decide) dL_would_255 ?_
                  refine jr_icmp_ne (tgt := 282) C r_x20 (jkc rfl) h dL_would_257 (by decide) (fun hc257 h => ?_) (fun hc257 h => ?_)
                  · refine lv_iload C.1 C.2.1 dL_would_260 (lv_at hl 3 rfl) ?_
                    refine jr_ldc (n := -1000001) C q_315 (by decide) dL_would_262 ?_
                    refine jr_icmp_ne (tgt := 282) C r_x22 (jkc rfl) h dL_would_264 (by decide) (fun hc264 h => ?_) (fun hc264 h => ?_)
                    · refine lv_aload_n C.1 C.2.1 dL_would_267 rfl (lv_at hl 14 rfl) ?_
                      refine lv_iload_n C.1 C.2.1 dL_would_268 rfl (lv_at hl 13 rfl) ?_
                      refine cl_X6_mean C hl.1 B q_434 ⟨Nat.le_of_ble_eq_true rfl, Nat.le_of_ble_eq_true rfl⟩ ⟨Nat.zero_le _, Nat.zero_le _⟩ (Nat.le_of_ble_eq_true rfl) k_a1 r_x2 h dL_would_269 (fun x82 M83 _ _ h B => ?_)
                      have o_M83 := B.2.2
                      refine jr_ldcf C q_439 dL_would_272 ?_
                      refine jr_fcmp C dL_would_274 ?_
                      refine jr_if_ne (tgt := 282) C (jR_of _) h dL_would_275 (by decide) (fun hc275 h => ?_) (fun hc275 h => ?_)
                      · refine jr_iconst C dL_would_278 ?_
                        refine lv_goto (tgt := 283) C.1 C.2.1 dL_would_279 (by decide) ?_
                        exact jr_zret C B hr hlocks (Or.inr rfl) h dL_would_283
                      · refine jr_iconst C dL_would_282 ?_
                        exact jr_zret C B hr hlocks (Or.inl rfl) h dL_would_283
                    · refine jr_iconst C dL_would_282 ?_
                      exact jr_zret C B hr hlocks (Or.inl rfl) h dL_would_283
                  · refine jr_iconst C dL_would_282 ?_
                    exact jr_zret C B hr hlocks (Or.inl rfl) h dL_would_283
                · refine jr_iconst C dL_would_282 ?_
                  exact jr_zret C B hr hlocks (Or.inl rfl) h dL_would_283
              · refine jr_iconst C dL_would_282 ?_
                exact jr_zret C B hr hlocks (Or.inl rfl) h dL_would_283
            · refine jr_iconst C dL_would_282 ?_
              exact jr_zret C B hr hlocks (Or.inl rfl) h dL_would_283
        have hL154 : ∀ (n : Nat) (x26 : Int) (x27 : Int) (x28 : Int) (M29 : jM) (H : Heap) (locs : List Loc) (ls : Array Slot), lp_L_would_154 N a1 x2 x3 kx154 n x26 x27 x28 M29 → jR x26 → jR x27 → jR x28 → Hp G M29 s.heap H locs → lv_has ls 21 [(14, .int (jI x26)), (15, .int (jI x27)), (16, .int (jI x28)), (13, .int (jI x24)), (12, .int (jI x22)), (11, .int (jI x20)), (10, .int (jI x19)), (9, .int (jI x16)), (8, .int (jI x14)), (7, .int (jI x12)), (6, .int (jI x10)), (5, .int (jI x7)), (4, .int (jI x5)), (3, .int (jI x3)), (2, .int (jI x2)), (0, .ref (jD G a1))] → W p l e (rmm 6 143) s m args below meth c H locs 0 0 (MQ below (qZ G k) args s 0 0 (gA G)) (F0 m 154 ls []) := by
          intro n
          induction n with
          | zero => intro x26 x27 x28 M29 H locs ls h; exact (show False from h).elim
          | succ n ih154 =>
            intro x26 x27 x28 M29 H locs ls h r_x26 r_x27 r_x28 B hl
            have o_M29 := B.2.2
            rw [lp_L_would_154] at h
            refine lv_iload C.1 C.2.1 dL_would_154 (lv_at hl 2 rfl) ?_
            refine lv_aload_n C.1 C.2.1 dL_would_156 rfl (lv_at hl 15 rfl) ?_
            refine cl_X6_records C hl.1 B q_259 ⟨Nat.le_of_ble_eq_true rfl, Nat.le_of_ble_eq_true rfl⟩ ⟨Nat.zero_le _, Nat.zero_le _⟩ (Nat.le_of_ble_eq_true rfl) k_a1 h dL_would_157 (fun x84 r_x84 _ _ h B => ?_)
            refine jr_icmp_ge (tgt := 228) C r_x28 r_x84 h dL_would_160 (by decide) (fun hc160 h => ?_) (fun hc160 h => ?_)
            · refine lv_iload_n C.1 C.2.1 dL_would_163 rfl (lv_at hl 13 rfl) ?_
              refine jr_if_ne (tgt := 228) C (zR z_x3) h dL_would_164 (by decide) (fun hc164 h => ?_) (fun hc164 h => ?_)
              · refine lv_aload_n C.1 C.2.1 dL_would_167 rfl (lv_at hl 15 rfl) ?_
                refine lv_iload C.1 C.2.1 dL_would_168 (lv_at hl 2 rfl) ?_
                refine cl_X6_recordAt C hl.1 B q_263 ⟨Nat.le_of_ble_eq_true rfl, Nat.le_of_ble_eq_true rfl⟩ ⟨Nat.zero_le _, Nat.zero_le _⟩ (Nat.le_of_ble_eq_true rfl) k_a1 r_x28 h dL_would_170 (fun x85 r_x85 _ _ h B => ?_)
                refine lv_istore (lv' := [(17, .int (jI x85)), (14, .int (jI x26)), (15, .int (jI x27)), (16, .int (jI x28)), (13, .int (jI x24)), (12, .int (jI x22)), (11, .int (jI x20)), (10, .int (jI x19)), (9, .int (jI x16)), (8, .int (jI x14)), (7, .int (jI x12)), (6, .int (jI x10)), (5, .int (jI x7)), (4, .int (jI x5)), (3, .int (jI x3)), (2, .int (jI x2)), (0, .ref (jD G a1))]) C.1 C.2.1 dL_would_173 hl (by decide) rfl (fun ls hl => ?_)
                refine lv_iload C.1 C.2.1 dL_would_175 (lv_at hl 2 rfl) ?_
                refine lv_aload_n C.1 C.2.1 dL_would_177 rfl (lv_at hl 16 rfl) ?_
                refine lv_iload C.1 C.2.1 dL_would_178 (lv_at hl 0 rfl) ?_
                refine lv_iload_n C.1 C.2.1 dL_would_180 rfl (lv_at hl 15 rfl) ?_
                refine cl_X6_numbers C hl.1 B q_382 ⟨Nat.le_of_ble_eq_true rfl, Nat.le_of_ble_eq_true rfl⟩ ⟨Nat.zero_le _, Nat.zero_le _⟩ (Nat.le_of_ble_eq_true rfl) k_a1 r_x85 r_x2 h dL_would_181 (fun x86 M87 r_x86 _ _ h B => ?_)
                have o_M87 := B.2.2
                refine jr_iadd C dL_would_184 ?_
                refine jr_nm h (jW_R _) (fun x88 h r_x88 => ?_)
                refine lv_istore (lv' := [(15, .int (jI x88)), (17, .int (jI x85)), (14, .int (jI x26)), (16, .int (jI x28)), (13, .int (jI x24)), (12, .int (jI x22)), (11, .int (jI x20)), (10, .int (jI x19)), (9, .int (jI x16)), (8, .int (jI x14)), (7, .int (jI x12)), (6, .int (jI x10)), (5, .int (jI x7)), (4, .int (jI x5)), (3, .int (jI x3)), (2, .int (jI x2)), (0, .ref (jD G a1))]) C.1 C.2.1 dL_would_185 hl (by decide) rfl (fun ls hl => ?_)
                refine jr_iconst C dL_would_187 ?_
                refine lv_istore (lv' := [(18, .int (jI 0)), (15, .int (jI x88)), (17, .int (jI x85)), (14, .int (jI x26)), (16, .int (jI x28)), (13, .int (jI x24)), (12, .int (jI x22)), (11, .int (jI x20)), (10, .int (jI x19)), (9, .int (jI x16)), (8, .int (jI x14)), (7, .int (jI x12)), (6, .int (jI x10)), (5, .int (jI x7)), (4, .int (jI x5)), (3, .int (jI x3)), (2, .int (jI x2)), (0, .ref (jD G a1))]) C.1 C.2.1 dL_would_188 hl (by decide) rfl (fun ls hl => ?_)
                obtain ⟨kx190, hkx190, h⟩ : ∃ kx190 : Int → jM → Prop, (∀ (x92 : Int) (M93 : jM) (H : Heap) (locs : List Loc) (ls : Array Slot), kx190 x92 M93 → jR x92 → Hp G M93 s.heap H locs → lv_has ls 21 [(14, .int (jI x92)), (15, .int (jI x88)), (16, .int (jI x28)), (13, .int (jI x24)), (12, .int (jI x22)), (11, .int (jI x20)), (10, .int (jI x19)), (9, .int (jI x16)), (8, .int (jI x14)), (7, .int (jI x12)), (6, .int (jI x10)), (5, .int (jI x7)), (4, .int (jI x5)), (3, .int (jI x3)), (2, .int (jI x2)), (0, .ref (jD G a1))] → W p l e (rmm 6 143) s m args below meth c H locs 0 0 (MQ below (qZ G k) args s 0 0 (gA G)) (F0 m 222 ls [])) ∧ lp_L_would_190 N a1 x2 x85 kx190 N x26 0 M87 := by
                  refine ⟨_, ?_, h⟩
                  intro x92 M93 H locs ls h r_x92 B hl
                  have o_M93 := B.2.2
                  refine jr_iinc (k := 2) (lv' := fun x94 => [(16, .int (jI x94)), (14, .int (jI x92)), (15, .int (jI x88)), (13, .int (jI x24)), (12, .int (jI x22)), (11, .int (jI x20)), (10, .int (jI x19)), (9, .int (jI x16)), (8, .int (jI x14)), (7, .int (jI x12)), (6, .int (jI x10)), (5, .int (jI x7)), (4, .int (jI x5)), (3, .int (jI x3)), (2, .int (jI x2)), (0, .ref (jD G a1))]) C h hl rfl (by decide) (fun _ => rfl) dL_would_222 (fun x94 h r_x94 ls hl => ?_)
                  refine lv_goto (tgt := 154) C.1 C.2.1 dL_would_225 (by decide) ?_
                  exact ih154 _ _ _ _ _ _ _ h r_x92 r_x88 r_x94 B (lv_sub hl [1, 2, 0, 3, 4, 5, 6, 7, 8, 9, 10, 11, 12, 13, 14, 15] rfl)
                have hL190 : ∀ (n : Nat) (x89 : Int) (x90 : Int) (M91 : jM) (H : Heap) (locs : List Loc) (ls : Array Slot), lp_L_would_190 N a1 x2 x85 kx190 n x89 x90 M91 → jR x89 → jR x90 → Hp G M91 s.heap H locs → lv_has ls 21 [(14, .int (jI x89)), (18, .int (jI x90)), (15, .int (jI x88)), (17, .int (jI x85)), (16, .int (jI x28)), (13, .int (jI x24)), (12, .int (jI x22)), (11, .int (jI x20)), (10, .int (jI x19)), (9, .int (jI x16)), (8, .int (jI x14)), (7, .int (jI x12)), (6, .int (jI x10)), (5, .int (jI x7)), (4, .int (jI x5)), (3, .int (jI x3)), (2, .int (jI x2)), (0, .ref (jD G a1))] → W p l e (rmm 6 143) s m args below meth c H locs 0 0 (MQ below (qZ G k) args s 0 0 (gA G)) (F0 m 190 ls []) := by
                  intro n
                  induction n with
                  | zero => intro x89 x90 M91 H locs ls h; exact (show False from h).elim
                  | succ n ih190 =>
                    intro x89 x90 M91 H locs ls h r_x89 r_x90 B hl
                    have o_M91 := B.2.2
                    rw [lp_L_would_190] at h
                    refine lv_iload C.1 C.2.1 dL_would_190 (lv_at hl 1 rfl) ?_
                    refine lv_aload_n C.1 C.2.1 dL_would_192 rfl (lv_at hl 17 rfl) ?_
                    refine lv_iload C.1 C.2.1 dL_would_193 (lv_at hl 3 rfl) ?_
                    refine lv_iload_n C.1 C.2.1 dL_would_195 rfl (lv_at hl 16 rfl) ?_
                    refine cl_X6_numbers C hl.1 B q_382 ⟨Nat.le_of_ble_eq_true rfl, Nat.le_of_ble_eq_true rfl⟩ ⟨Nat.zero_le _, Nat.zero_le _⟩ (Nat.le_of_ble_eq_true rfl) k_a1 r_x85 r_x2 h dL_would_196 (fun x95 M96 r_x95 _ _ h B => ?_)
                    have o_M96 := B.2.2
                    refine jr_icmp_ge (tgt := 222) C r_x90 r_x95 h dL_would_199 (by decide) (fun hc199 h => ?_) (fun hc199 h => ?_)
                    · refine lv_iload C.1 C.2.1 dL_would_202 (lv_at hl 0 rfl) ?_
                      refine lv_aload_n C.1 C.2.1 dL_would_204 rfl (lv_at hl 17 rfl) ?_
                      refine lv_iload C.1 C.2.1 dL_would_205 (lv_at hl 3 rfl) ?_
                      refine lv_iload_n C.1 C.2.1 dL_would_207 rfl (lv_at hl 16 rfl) ?_
                      refine lv_iload C.1 C.2.1 dL_would_208 (lv_at hl 1 rfl) ?_
                      refine cl_X6_numberAt C hl.1 B q_338 ⟨Nat.le_of_ble_eq_true rfl, Nat.le_of_ble_eq_true rfl⟩ ⟨Nat.zero_le _, Nat.zero_le _⟩ (Nat.le_of_ble_eq_true rfl) k_a1 r_x85 r_x2 r_x90 h dL_would_210 (fun x97 M98 r_x97 _ _ h B => ?_)
                      have o_M98 := B.2.2
                      refine jr_iadd C dL_would_213 ?_
                      refine jr_nm h (jW_R _) (fun x99 h r_x99 => ?_)
                      refine lv_istore (lv' := [(14, .int (jI x99)), (18, .int (jI x90)), (15, .int (jI x88)), (17, .int (jI x85)), (16, .int (jI x28)), (13, .int (jI x24)), (12, .int (jI x22)), (11, .int (jI x20)), (10, .int (jI x19)), (9, .int (jI x16)), (8, .int (jI x14)), (7, .int (jI x12)), (6, .int (jI x10)), (5, .int (jI x7)), (4, .int (jI x5)), (3, .int (jI x3)), (2, .int (jI x2)), (0, .ref (jD G a1))]) C.1 C.2.1 dL_would_214 hl (by decide) rfl (fun ls hl => ?_)
                      refine jr_iinc (k := 1) (lv' := fun x100 => [(18, .int (jI x100)), (14, .int (jI x99)), (15, .int (jI x88)), (17, .int (jI x85)), (16, .int (jI x28)), (13, .int (jI x24)), (12, .int (jI x22)), (11, .int (jI x20)), (10, .int (jI x19)), (9, .int (jI x16)), (8, .int (jI x14)), (7, .int (jI x12)), (6, .int (jI x10)), (5, .int (jI x7)), (4, .int (jI x5)), (3, .int (jI x3)), (2, .int (jI x2)), (0, .ref (jD G a1))]) C h hl rfl (by decide) (fun _ => rfl) dL_would_216 (fun x100 h r_x100 ls hl => ?_)
                      refine lv_goto (tgt := 190) C.1 C.2.1 dL_would_219 (by decide) ?_
                      exact ih190 _ _ _ _ _ _ h r_x99 r_x100 B (lv_sub hl [1, 0, 2, 3, 4, 5, 6, 7, 8, 9, 10, 11, 12, 13, 14, 15, 16, 17] rfl)
                    · exact hkx190 _ _ _ _ _ h r_x89 B (lv_sub hl [0, 2, 4, 5, 6, 7, 8, 9, 10, 11, 12, 13, 14, 15, 16, 17] rfl)
                exact hL190 N _ _ _ _ _ _ h r_x26 (jkc rfl) B (lv_sub hl [3, 0, 1, 2, 4, 5, 6, 7, 8, 9, 10, 11, 12, 13, 14, 15, 16, 17] rfl)
              · exact hkx154 _ _ _ _ _ _ h r_x26 r_x27 B (lv_sub hl [0, 1, 3, 4, 5, 6, 7, 8, 9, 10, 11, 12, 13, 14, 15] rfl)
            · exact hkx154 _ _ _ _ _ _ h r_x26 r_x27 B (lv_sub hl [0, 1, 3, 4, 5, 6, 7, 8, 9, 10, 11, 12, 13, 14, 15] rfl)
        exact hL154 N _ _ _ _ _ _ _ h (jkc rfl) (jkc rfl) (jkc rfl) B (lv_sub hl [2, 1, 0, 3, 4, 5, 6, 7, 8, 9, 10, 11, 12, 13, 14, 15] rfl))
      refine jr_if_lt (tgt := 138) C r_x10 h dL_would_124 (by decide) (fun hc124 h => ?_) (fun hc124 h => ?_)
      · refine jr_iconst C dL_would_138 ?_
        refine lv_goto (tgt := 143) C.1 C.2.1 dL_would_139 (by decide) ?_
        exact hj124_25 _ _ _ _ h (Or.inr rfl) B (lv_sub hl [0, 1, 2, 3, 4, 5, 6, 7, 8, 9, 10, 11] rfl)
      · refine lv_iload C.1 C.2.1 dL_would_127 (lv_at hl 5 rfl) ?_
        refine jr_if_lt (tgt := 138) C r_x12 h dL_would_129 (by decide) (fun hc129 h => ?_) (fun hc129 h => ?_)
        · refine jr_iconst C dL_would_138 ?_
          refine lv_goto (tgt := 143) C.1 C.2.1 dL_would_139 (by decide) ?_
          exact hj124_25 _ _ _ _ h (Or.inr rfl) B (lv_sub hl [0, 1, 2, 3, 4, 5, 6, 7, 8, 9, 10, 11] rfl)
        · refine lv_iload C.1 C.2.1 dL_would_132 (lv_at hl 5 rfl) ?_
          refine jr_iconst C dL_would_134 ?_
          refine jr_icmp_le (tgt := 142) C r_x12 (jkc rfl) h dL_would_135 (by decide) (fun hc135 h => ?_) (fun hc135 h => ?_)
          · refine jr_iconst C dL_would_142 ?_
            exact hj124_25 _ _ _ _ h (Or.inl rfl) B (lv_sub hl [0, 1, 2, 3, 4, 5, 6, 7, 8, 9, 10, 11] rfl)
          · refine jr_iconst C dL_would_138 ?_
            refine lv_goto (tgt := 143) C.1 C.2.1 dL_would_139 (by decide) ?_
            exact hj124_25 _ _ _ _ h (Or.inr rfl) B (lv_sub hl [0, 1, 2, 3, 4, 5, 6, 7, 8, 9, 10, 11] rfl))
    refine jr_if_ne (tgt := 78) C r_x13 h dL_would_71 (by decide) (fun hc71 h => ?_) (fun hc71 h => ?_)
    · refine jr_iconst C dL_would_74 ?_
      refine lv_goto (tgt := 79) C.1 C.2.1 dL_would_75 (by decide) ?_
      exact hj71_15 _ _ _ _ h (Or.inr rfl) B (lv_sub hl [0, 1, 2, 3, 4, 5, 6, 7] rfl)
    · refine jr_iconst C dL_would_78 ?_
      exact hj71_15 _ _ _ _ h (Or.inl rfl) B (lv_sub hl [0, 1, 2, 3, 4, 5, 6, 7] rfl))
  refine jr_if_lt (tgt := 18) C r_x2 h dL_would_10 (by decide) (fun hc10 h => ?_) (fun hc10 h => ?_)
  · refine jr_iconst C dL_would_18 ?_
    refine lv_goto (tgt := 23) C.1 C.2.1 dL_would_19 (by decide) ?_
    exact hj10_4 _ _ _ _ h (Or.inr rfl) B (lv_sub hl [0, 1, 2] rfl)
  · refine lv_iload_n C.1 C.2.1 dL_would_13 rfl (lv_at hl 0 rfl) ?_
    refine jr_iconst C dL_would_14 ?_
    refine jr_icmp_le (tgt := 22) C r_x2 (jkc rfl) h dL_would_15 (by decide) (fun hc15 h => ?_) (fun hc15 h => ?_)
    · refine jr_iconst C dL_would_22 ?_
      exact hj10_4 _ _ _ _ h (Or.inl rfl) B (lv_sub hl [0, 1, 2] rfl)
    · refine jr_iconst C dL_would_18 ?_
      refine lv_goto (tgt := 23) C.1 C.2.1 dL_would_19 (by decide) ?_
      exact hj10_4 _ _ _ _ h (Or.inr rfl) B (lv_sub hl [0, 1, 2] rfl)
theorem cl_L_would {p : Program} {l : Launch} {e : Env} {R : Room} {s : State} {m : MethodId} {args : Array Value} {below : List Frame} {meth : Method} {c : Code} {H : Heap} {locs : List Loc} {cells slots : Nat} {Q : State → Prop} {cc : ByteArray} {nL : Nat} {own : String} {G : jG} {H0 : Heap} {pc idx : Nat} {ls : Array Slot} {rest : List Value} {N : Nat} {M : jM} {a1 a2 : Int} {k : Int → jM → Prop} (C : Cx G p s args m c cc nL own) (hl : ls.size = nL) (B : Hp G M H0 H locs) (q1 : Cond.methodLink own idx yL_would ∈ tb) (hR : (rmm 6 143).frames + 1 ≤ R.frames ∧ 8 + (21 + 11) + (rmm 6 143).locals ≤ R.locals) (hcs : cells ≤ R.cells ∧ slots ≤ R.slots) (hW : (rest.map fun v => v.category).sum ≤ 8) (k_a1 : jK a1 = 7) (r_a2 : jR a2) (h : w_L_would N M a1 a2 k) (hdg : decode cc pc = .ok (.invokestatic idx, 3)) (kk : ∀ (r : Int) (M' : jM), (r = 0 ∨ r = 1) → ∀ (H1 : Heap) (locs1 : List Loc), k r M' → Hp G M' H0 H1 locs1 → W p l e R s m args below meth c H1 locs1 cells slots Q (F0 m (pc + 3) ls (.int (jI r) :: rest))) : W p l e R s m args below meth c H locs cells slots Q (F0 m pc ls (.int (jI a2) :: .ref (jD G a1) :: rest)) :=
  jr_callZ B (jr_runS (As := [.ref (jD G a1), .int (jI a2)]) (n := 2) C hl B (m_L_would B.2.2 k_a1 r_a2 h) q1 q_387 q_388 q_0 ⟨by decide, by decide, by decide +kernel⟩ rfl ⟨rfl, rfl⟩ hR hcs rfl hW hdg) (fun r M' H1 locs1 hr hk B1 => kk r M' hr H1 locs1 hk B1)
