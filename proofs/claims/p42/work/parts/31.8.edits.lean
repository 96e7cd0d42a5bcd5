def w_L_edits (N : Nat) (M : jM) (a1 : Int) (a2 : Int) (a3 : Int) (a4 : Int) (a5 : Int) (k : Int → jM → Prop) : Prop := (w_L_low (jShr a5 16) 7 (fun x1 => (jL (fun (x2 : Int) => (w_L_low a5 x2 (fun x4 => (jL (fun (x5 : Int) => (jL (fun (x7 : Int) => (w_L_low (jShr a5 3) (jW (x7 + 2)) (fun x9 => (jL (fun (x10 : Int) => (w_L_low (jShr a5 6) (jW (x10 + 3)) (fun x12 => (jL (jW (x12 - 1)) (fun x13 => (w_L_low (jShr a5 17) 5 (fun x14 => (jL (fun (x15 : Int) => (w_L_low (jShr a5 9) x15 (fun x17 => (w_L_low (jShr a5 17) 5 (fun x18 => (jL (fun (x19 : Int) => (jL (jW (x17 - x19)) (fun x21 => (jL (fun (x22 : Int) => (jL (fun (x24 : Int) => (jL (fun (x26 : Int) => (if a4 = 0 then (jL (fun (x28 : Int) => (jL (fun (x30 : Int) => (w_X6_insert N M a1 a2 a3 x4 x9 x13 x21 (fun x32 M33 => (jL (fun (x34 : Int) => (if x32 = x34 then (if x32 < 0 then (k 1 M33) else (jL (fun (x36 : Int) => (w_X6_get N M33 a1 a3 x4 x9 x36 (fun x38 => (if x38 = x21 then (w_X6_values N M33 a1 a3 x4 (fun x39 => (jL (fun (x40 : Int) => (if x39 = (jW (x7 + x40)) then (w_X6_subvalues N M33 a1 a3 x4 x9 (fun x42 => (if x13 < 0 then (if x42 = 1 then (k 1 M33) else (k 0 M33)) else (if x42 = (jW (x10 + 1)) then (k 1 M33) else (k 0 M33))))) else (k 0 M33))) (fun j458_41 => (if x13 < 0 then (j458_41 1) else (j458_41 0)))))) else (k 0 M33))))) (fun j430_37 => (if x13 < 0 then (j430_37 0) else (j430_37 x13))))) else (k 0 M33))) (fun j360_35 => (if x28 = 0 then (if x22 = 0 then (if x24 = 0 then (if x30 = 0 then (if x13 < 0 then (j360_35 (jW (x7 + 1))) else (j360_35 (jW (x10 + 1)))) else (j360_35 (-1000004))) else (j360_35 (-1000006))) else (j360_35 (-1000002))) else (j360_35 (-1000001)))))))) (fun j310_31 => (if x13 < 0 then (if x7 = 5 then (j310_31 1) else (j310_31 0)) else (if x10 = 4 then (j310_31 1) else (j310_31 0)))))) (fun j269_29 => (if x5 = 0 then (if x13 < 0 then (if x9 ≤ x7 then (j269_29 0) else (j269_29 1)) else (if x9 < x7 then (if x13 ≤ x10 then (j269_29 0) else (j269_29 1)) else (j269_29 1))) else (j269_29 1)))) else (if a4 = 1 then (w_X6_change N M a1 a2 a3 x4 x9 x13 x21 (fun x43 M44 => (jL (fun (x45 : Int) => (if x43 = x45 then (if x26 = (-1000001) then (k 1 M44) else (w_X6_get N M44 a1 a3 x4 x9 x13 (fun x47 => (if x22 = 0 then (if x24 = 0 then (if x47 = x21 then (k 1 M44) else (k 0 M44)) else (if x47 = x26 then (k 1 M44) else (k 0 M44))) else (if x47 = x26 then (k 1 M44) else (k 0 M44)))))) else (k 0 M44))) (fun j528_46 => (if x26 = (-1000001) then (j528_46 (-1000001)) else (if x22 = 0 then (if x24 = 0 then (j528_46 x26) else (j528_46 (-1000006))) else (j528_46 (-1000002)))))))) else (jL (fun (x48 : Int) => (jL (fun (x50 : Int) => (w_X6_remove N M a1 a2 a3 x4 x9 x13 (fun x52 M53 => (jL (fun (x54 : Int) => (if x52 = x54 then (if x52 < 0 then (k 1 M53) else (w_X6_values N M53 a1 a3 x4 (fun x56 => (if x56 = x52 then (if x50 = 0 then (w_X6_subvalues N M53 a1 a3 x4 x9 (fun x57 => (if x57 = (jW (x10 - 1)) then (k 1 M53) else (k 0 M53)))) else (k 1 M53)) else (k 0 M53))))) else (k 0 M53))) (fun j672_55 => (if x48 = 0 then (if x24 = 0 then (if x50 = 0 then (j672_55 (jW (x7 - 0))) else (j672_55 (jW (x7 - 1)))) else (j672_55 (-1000006))) else (j672_55 (-1000001)))))))) (fun j638_51 => (if x13 < 0 then (j638_51 1) else (if x10 = 1 then (j638_51 1) else (j638_51 0)))))) (fun j607_49 => (if x5 = 0 then (if x9 < x7 then (if x13 < 0 then (j607_49 0) else (if x26 = (-1000001) then (j607_49 1) else (j607_49 0))) else (j607_49 1)) else (j607_49 1))))))) (fun j230_27 => (if x9 < x7 then (if x13 < 0 then (j230_27 (-1000001)) else (if x13 < x10 then (w_X6_get N M a1 a3 x4 x9 x13 (fun x58 => (j230_27 x58))) else (j230_27 (-1000001)))) else (j230_27 (-1000001)))))) (fun j197_25 => (if x5 = 0 then (w_X6_locker N M a1 a3 (fun x59 => (if x59 = (-1000007) then (j197_25 0) else (w_X6_locker N M a1 a3 (fun x60 => (if x60 = a2 then (j197_25 0) else (j197_25 1))))))) else (j197_25 0))))) (fun j177_23 => (if x21 < (-999) then (j177_23 1) else (if x21 ≤ 999 then (j177_23 0) else (j177_23 1)))))))) (fun j159_20 => (if x18 = 0 then (j159_20 1001) else (j159_20 4))))))))) (fun j136_16 => (if x14 = 0 then (j136_16 2003) else (j136_16 9))))))))))) (fun j88_11 => (if x9 < x7 then (w_X6_subvalues N M a1 a3 x4 x9 (fun x61 => (j88_11 x61))) else (j88_11 0))))))) (fun j55_8 => (if x5 = 0 then (w_X6_values N M a1 a3 x4 (fun x62 => (j55_8 x62))) else (j55_8 0))))) (fun j27_6 => (if a2 ≤ 3 then (w_X6_locker N M a1 a3 (fun x63 => (if x63 = (-1000001) then (j27_6 1) else (if x4 = 4 then (j27_6 1) else (j27_6 0))))) else (j27_6 1))))))) (fun j12_3 => (if x1 = 0 then (j12_3 5) else (j12_3 4))))))
set_option maxHeartbeats 4000000 in
set_option maxRecDepth 100000 in
theorem m_L_edits {l : Launch} {G : jG} {N : Nat} {M : jM} {a1 a2 a3 a4 a5 : Int} {k : Int → jM → Prop} (o_M : jOK M) (k_a1 : jK a1 = 7) (r_a2 : jR a2) (r_a3 : jR a3) (r_a4 : jR a4) (r_a5 : jR a5) (h : w_L_edits N M a1 a2 a3 a4 a5 k) : Met l yL_edits (wsG yL_edits cL_edits 18 (some .boolean)) (rmm 7 176) (jPc G M [.ref (jD G a1), .int (jI a2), .int (jI a3), .int (jI a4), .int (jI a5)]) (qZ G k) 0 0 (gA G) := by
  refine jm_start RL rfl (by decide) (Nat.le_of_ble_eq_true rfl) o_M ?_
  intro p e s m args below meth c ls C hr hlocks hl B
  have hl : lv_has ls 18 [(0, .ref (jD G a1)), (1, .int (jI a2)), (2, .int (jI a3)), (3, .int (jI a4)), (4, .int (jI a5))] := hl
  unfold w_L_edits at h
  refine lv_iload C.1 C.2.1 dL_edits_0 (lv_at hl 4 rfl) ?_
  refine lv_iload C.1 C.2.1 dL_edits_2 (lv_at hl 4 rfl) ?_
  refine jr_bipush C dL_edits_4 (by decide) ?_
  refine jr_ishr C dL_edits_6 ?_
  refine jr_bipush C dL_edits_7 (by decide) ?_
  refine cl_L_low C hl.1 B q_220 ⟨Nat.le_of_ble_eq_true rfl, Nat.le_of_ble_eq_true rfl⟩ ⟨Nat.zero_le _, Nat.zero_le _⟩ (Nat.le_of_ble_eq_true rfl) (jShr_R _ _) (jkc rfl) h dL_edits_9 (fun x1 r_x1 _ _ h B => ?_)
  obtain ⟨j12_3, hj12_3, h⟩ := jx_join (P := fun j12_3 : Int → Prop => ∀ (x2 : Int) (H : Heap) (locs : List Loc) (ls : Array Slot), j12_3 x2 → jR x2 → Hp G M s.heap H locs → lv_has ls 18 [(0, .ref (jD G a1)), (1, .int (jI a2)), (2, .int (jI a3)), (3, .int (jI a4)), (4, .int (jI a5))] → W p l e (rmm 7 176) s m args below meth c H locs 0 0 (MQ below (qZ G k) args s 0 0 (gA G)) (F0 m 20 ls [.int (jI x2), .int (jI a5)])) h (by
    intro x2 H locs ls h r_x2 B hl
    refine cl_L_low C hl.1 B q_220 ⟨Nat.le_of_ble_eq_true rfl, Nat.le_of_ble_eq_true rfl⟩ ⟨Nat.zero_le _, Nat.zero_le _⟩ (Nat.le_of_ble_eq_true rfl) r_a5 r_x2 h dL_edits_20 (fun x4 r_x4 _ _ h B => ?_)
    refine lv_istore (lv' := [(5, .int (jI x4)), (0, .ref (jD G a1)), (1, .int (jI a2)), (2, .int (jI a3)), (3, .int (jI a4)), (4, .int (jI a5))]) C.1 C.2.1 dL_edits_23 hl (by decide) rfl (fun ls hl => ?_)
    refine lv_iload_n C.1 C.2.1 dL_edits_25 rfl (lv_at hl 2 rfl) ?_
    refine jr_iconst C dL_edits_26 ?_
    obtain ⟨j27_6, hj27_6, h⟩ := jx_join (P := fun j27_6 : Int → Prop => ∀ (x5 : Int) (H : Heap) (locs : List Loc) (ls : Array Slot), j27_6 x5 → (x5 = 0 ∨ x5 = 1) → Hp G M s.heap H locs → lv_has ls 18 [(5, .int (jI x4)), (0, .ref (jD G a1)), (1, .int (jI a2)), (2, .int (jI a3)), (3, .int (jI a4)), (4, .int (jI a5))] → W p l e (rmm 7 176) s m args below meth c H locs 0 0 (MQ below (qZ G k) args s 0 0 (gA G)) (F0 m 51 ls [.int (jI x5)])) h (by
      intro x5 H locs ls h z_x5 B hl
      refine lv_istore (lv' := [(6, .int (jI x5)), (5, .int (jI x4)), (0, .ref (jD G a1)), (1, .int (jI a2)), (2, .int (jI a3)), (3, .int (jI a4)), (4, .int (jI a5))]) C.1 C.2.1 dL_edits_51 hl (by decide) rfl (fun ls hl => ?_)
      refine lv_iload C.1 C.2.1 dL_edits_53 (lv_at hl 0 rfl) ?_
      obtain ⟨j55_8, hj55_8, h⟩ := jx_join (P := fun j55_8 : Int → Prop => ∀ (x7 : Int) (H : Heap) (locs : List Loc) (ls : Array Slot), j55_8 x7 → jR x7 → Hp G M s.heap H locs → lv_has ls 18 [(6, .int (jI x5)), (5, .int (jI x4)), (0, .ref (jD G a1)), (1, .int (jI a2)), (2, .int (jI a3)), (3, .int (jI a4)), (4, .int (jI a5))] → W p l e (rmm 7 176) s m args below meth c H locs 0 0 (MQ below (qZ G k) args s 0 0 (gA G)) (F0 m 69 ls [.int (jI x7)])) h (by
        intro x7 H locs ls h r_x7 B hl
        refine lv_istore (lv' := [(7, .int (jI x7)), (6, .int (jI x5)), (5, .int (jI x4)), (0, .ref (jD G a1)), (1, .int (jI a2)), (2, .int (jI a3)), (3, .int (jI a4)), (4, .int (jI a5))]) C.1 C.2.1 dL_edits_69 hl (by decide) rfl (fun ls hl => ?_)
        refine lv_iload C.1 C.2.1 dL_edits_71 (lv_at hl 7 rfl) ?_
        refine jr_iconst C dL_edits_73 ?_
        refine jr_ishr C dL_edits_74 ?_
        refine lv_iload C.1 C.2.1 dL_edits_75 (lv_at hl 0 rfl) ?_
        refine jr_iconst C dL_edits_77 ?_
        refine jr_iadd C dL_edits_78 ?_
        refine cl_L_low C hl.1 B q_220 ⟨Nat.le_of_ble_eq_true rfl, Nat.le_of_ble_eq_true rfl⟩ ⟨Nat.zero_le _, Nat.zero_le _⟩ (Nat.le_of_ble_eq_true rfl) (jShr_R _ _) (jW_R _) h dL_edits_79 (fun x9 r_x9 _ _ h B => ?_)
        refine lv_istore (lv' := [(8, .int (jI x9)), (7, .int (jI x7)), (6, .int (jI x5)), (5, .int (jI x4)), (0, .ref (jD G a1)), (1, .int (jI a2)), (2, .int (jI a3)), (3, .int (jI a4)), (4, .int (jI a5))]) C.1 C.2.1 dL_edits_82 hl (by decide) rfl (fun ls hl => ?_)
        refine lv_iload C.1 C.2.1 dL_edits_84 (lv_at hl 0 rfl) ?_
        refine lv_iload C.1 C.2.1 dL_edits_86 (lv_at hl 1 rfl) ?_
        obtain ⟨j88_11, hj88_11, h⟩ := jx_join (P := fun j88_11 : Int → Prop => ∀ (x10 : Int) (H : Heap) (locs : List Loc) (ls : Array Slot), j88_11 x10 → jR x10 → Hp G M s.heap H locs → lv_has ls 18 [(8, .int (jI x9)), (7, .int (jI x7)), (6, .int (jI x5)), (5, .int (jI x4)), (0, .ref (jD G a1)), (1, .int (jI a2)), (2, .int (jI a3)), (3, .int (jI a4)), (4, .int (jI a5))] → W p l e (rmm 7 176) s m args below meth c H locs 0 0 (MQ below (qZ G k) args s 0 0 (gA G)) (F0 m 104 ls [.int (jI x10)])) h (by
          intro x10 H locs ls h r_x10 B hl
          refine lv_istore (lv' := [(9, .int (jI x10)), (8, .int (jI x9)), (7, .int (jI x7)), (6, .int (jI x5)), (5, .int (jI x4)), (0, .ref (jD G a1)), (1, .int (jI a2)), (2, .int (jI a3)), (3, .int (jI a4)), (4, .int (jI a5))]) C.1 C.2.1 dL_edits_104 hl (by decide) rfl (fun ls hl => ?_)
          refine lv_iload C.1 C.2.1 dL_edits_106 (lv_at hl 9 rfl) ?_
          refine jr_bipush C dL_edits_108 (by decide) ?_
          refine jr_ishr C dL_edits_110 ?_
          refine lv_iload C.1 C.2.1 dL_edits_111 (lv_at hl 0 rfl) ?_
          refine jr_iconst C dL_edits_113 ?_
          refine jr_iadd C dL_edits_114 ?_
          refine cl_L_low C hl.1 B q_220 ⟨Nat.le_of_ble_eq_true rfl, Nat.le_of_ble_eq_true rfl⟩ ⟨Nat.zero_le _, Nat.zero_le _⟩ (Nat.le_of_ble_eq_true rfl) (jShr_R _ _) (jW_R _) h dL_edits_115 (fun x12 r_x12 _ _ h B => ?_)
          refine jr_iconst C dL_edits_118 ?_
          refine jr_isub C dL_edits_119 ?_
          refine jr_nm h (jW_R _) (fun x13 h r_x13 => ?_)
          refine lv_istore (lv' := [(10, .int (jI x13)), (9, .int (jI x10)), (8, .int (jI x9)), (7, .int (jI x7)), (6, .int (jI x5)), (5, .int (jI x4)), (0, .ref (jD G a1)), (1, .int (jI a2)), (2, .int (jI a3)), (3, .int (jI a4)), (4, .int (jI a5))]) C.1 C.2.1 dL_edits_120 hl (by decide) rfl (fun ls hl => ?_)
          refine lv_iload C.1 C.2.1 dL_edits_122 (lv_at hl 10 rfl) ?_
          refine jr_bipush C dL_edits_124 (by decide) ?_
          refine jr_ishr C dL_edits_126 ?_
          refine lv_iload C.1 C.2.1 dL_edits_127 (lv_at hl 10 rfl) ?_
          refine jr_bipush C dL_edits_129 (by decide) ?_
          refine jr_ishr C dL_edits_131 ?_
          refine jr_iconst C dL_edits_132 ?_
          refine cl_L_low C hl.1 B q_220 ⟨Nat.le_of_ble_eq_true rfl, Nat.le_of_ble_eq_true rfl⟩ ⟨Nat.zero_le _, Nat.zero_le _⟩ (Nat.le_of_ble_eq_true rfl) (jShr_R _ _) (jkc rfl) h dL_edits_133 (fun x14 r_x14 _ _ h B => ?_)
          obtain ⟨j136_16, hj136_16, h⟩ := jx_join (P := fun j136_16 : Int → Prop => ∀ (x15 : Int) (H : Heap) (locs : List Loc) (ls : Array Slot), j136_16 x15 → jR x15 → Hp G M s.heap H locs → lv_has ls 18 [(10, .int (jI x13)), (9, .int (jI x10)), (8, .int (jI x9)), (7, .int (jI x7)), (6, .int (jI x5)), (5, .int (jI x4)), (0, .ref (jD G a1)), (1, .int (jI a2)), (2, .int (jI a3)), (3, .int (jI a4)), (4, .int (jI a5))] → W p l e (rmm 7 176) s m args below meth c H locs 0 0 (MQ below (qZ G k) args s 0 0 (gA G)) (F0 m 147 ls [.int (jI x15), .int (jI (jShr a5 9))])) h (by
            intro x15 H locs ls h r_x15 B hl
            refine cl_L_low C hl.1 B q_220 ⟨Nat.le_of_ble_eq_true rfl, Nat.le_of_ble_eq_true rfl⟩ ⟨Nat.zero_le _, Nat.zero_le _⟩ (Nat.le_of_ble_eq_true rfl) (jShr_R _ _) r_x15 h dL_edits_147 (fun x17 r_x17 _ _ h B => ?_)
            refine lv_iload C.1 C.2.1 dL_edits_150 (lv_at hl 10 rfl) ?_
            refine jr_bipush C dL_edits_152 (by decide) ?_
            refine jr_ishr C dL_edits_154 ?_
            refine jr_iconst C dL_edits_155 ?_
            refine cl_L_low C hl.1 B q_220 ⟨Nat.le_of_ble_eq_true rfl, Nat.le_of_ble_eq_true rfl⟩ ⟨Nat.zero_le _, Nat.zero_le _⟩ (Nat.le_of_ble_eq_true rfl) (jShr_R _ _) (jkc rfl) h dL_edits_156 (fun x18 r_x18 _ _ h B => ?_)
            obtain ⟨j159_20, hj159_20, h⟩ := jx_join (P := fun j159_20 : Int → Prop => ∀ (x19 : Int) (H : Heap) (locs : List Loc) (ls : Array Slot), j159_20 x19 → jR x19 → Hp G M s.heap H locs → lv_has ls 18 [(10, .int (jI x13)), (9, .int (jI x10)), (8, .int (jI x9)), (7, .int (jI x7)), (6, .int (jI x5)), (5, .int (jI x4)), (0, .ref (jD G a1)), (1, .int (jI a2)), (2, .int (jI a3)), (3, .int (jI a4))] → W p l e (rmm 7 176) s m args below meth c H locs 0 0 (MQ below (qZ G k) args s 0 0 (gA G)) (F0 m 169 ls [.int (jI x19), .int (jI x17)])) h (by
              intro x19 H locs ls h r_x19 B hl
              refine jr_isub C dL_edits_169 ?_
              refine jr_nm h (jW_R _) (fun x21 h r_x21 => ?_)
              refine lv_istore (lv' := [(11, .int (jI x21)), (10, .int (jI x13)), (9, .int (jI x10)), (8, .int (jI x9)), (7, .int (jI x7)), (6, .int (jI x5)), (5, .int (jI x4)), (0, .ref (jD G a1)), (1, .int (jI a2)), (2, .int (jI a3)), (3, .int (jI a4))]) C.1 C.2.1 dL_edits_170 hl (by decide) rfl (fun ls hl => ?_)
              refine lv_iload C.1 C.2.1 dL_edits_172 (lv_at hl 0 rfl) ?_
              refine jr_sipush C dL_edits_174 (by decide) ?_
              obtain ⟨j177_23, hj177_23, h⟩ := jx_join (P := fun j177_23 : Int → Prop => ∀ (x22 : Int) (H : Heap) (locs : List Loc) (ls : Array Slot), j177_23 x22 → (x22 = 0 ∨ x22 = 1) → Hp G M s.heap H locs → lv_has ls 18 [(11, .int (jI x21)), (10, .int (jI x13)), (9, .int (jI x10)), (8, .int (jI x9)), (7, .int (jI x7)), (6, .int (jI x5)), (5, .int (jI x4)), (0, .ref (jD G a1)), (1, .int (jI a2)), (2, .int (jI a3)), (3, .int (jI a4))] → W p l e (rmm 7 176) s m args below meth c H locs 0 0 (MQ below (qZ G k) args s 0 0 (gA G)) (F0 m 193 ls [.int (jI x22)])) h (by
                intro x22 H locs ls h z_x22 B hl
                refine lv_istore (lv' := [(12, .int (jI x22)), (11, .int (jI x21)), (10, .int (jI x13)), (9, .int (jI x10)), (8, .int (jI x9)), (7, .int (jI x7)), (6, .int (jI x5)), (5, .int (jI x4)), (0, .ref (jD G a1)), (1, .int (jI a2)), (2, .int (jI a3)), (3, .int (jI a4))]) C.1 C.2.1 dL_edits_193 hl (by decide) rfl (fun ls hl => ?_)
                refine lv_iload C.1 C.2.1 dL_edits_195 (lv_at hl 6 rfl) ?_
                obtain ⟨j197_25, hj197_25, h⟩ := jx_join (P := fun j197_25 : Int → Prop => ∀ (x24 : Int) (H : Heap) (locs : List Loc) (ls : Array Slot), j197_25 x24 → (x24 = 0 ∨ x24 = 1) → Hp G M s.heap H locs → lv_has ls 18 [(12, .int (jI x22)), (11, .int (jI x21)), (10, .int (jI x13)), (9, .int (jI x10)), (8, .int (jI x9)), (7, .int (jI x7)), (6, .int (jI x5)), (5, .int (jI x4)), (0, .ref (jD G a1)), (1, .int (jI a2)), (2, .int (jI a3)), (3, .int (jI a4))] → W p l e (rmm 7 176) s m args below meth c H locs 0 0 (MQ below (qZ G k) args s 0 0 (gA G)) (F0 m 224 ls [.int (jI x24)])) h (by
                  intro x24 H locs ls h z_x24 B hl
                  refine lv_istore (lv' := [(13, .int (jI x24)), (12, .int (jI x22)), (11, .int (jI x21)), (10, .int (jI x13)), (9, .int (jI x10)), (8, .int (jI x9)), (7, .int (jI x7)), (6, .int (jI x5)), (5, .int (jI x4)), (0, .ref (jD G a1)), (1, .int (jI a2)), (2, .int (jI a3)), (3, .int (jI a4))]) C.1 C.2.1 dL_edits_224 hl (by decide) rfl (fun ls hl => ?_)
                  refine lv_iload C.1 C.2.1 dL_edits_226 (lv_at hl 5 rfl) ?_
                  refine lv_iload C.1 C.2.1 dL_edits_228 (lv_at hl 6 rfl) ?_
                  obtain ⟨j230_27, hj230_27, h⟩ := jx_join (P := fun j230_27 : Int → Prop => ∀ (x26 : Int) (H : Heap) (locs : List Loc) (ls : Array Slot), j230_27 x26 → jR x26 → Hp G M s.heap H locs → lv_has ls 18 [(13, .int (jI x24)), (12, .int (jI x22)), (11, .int (jI x21)), (10, .int (jI x13)), (9, .int (jI x10)), (8, .int (jI x9)), (7, .int (jI x7)), (6, .int (jI x5)), (5, .int (jI x4)), (0, .ref (jD G a1)), (1, .int (jI a2)), (2, .int (jI a3)), (3, .int (jI a4))] → W p l e (rmm 7 176) s m args below meth c H locs 0 0 (MQ below (qZ G k) args s 0 0 (gA G)) (F0 m 261 ls [.int (jI x26)])) h (by
                    intro x26 H locs ls h r_x26 B hl
                    refine lv_istore (lv' := [(14, .int (jI x26)), (13, .int (jI x24)), (12, .int (jI x22)), (11, .int (jI x21)), (10, .int (jI x13)), (9, .int (jI x10)), (8, .int (jI x9)), (7, .int (jI x7)), (6, .int (jI x5)), (5, .int (jI x4)), (0, .ref (jD G a1)), (1, .int (jI a2)), (2, .int (jI a3)), (3, .int (jI a4))]) C.1 C.2.1 dL_edits_261 hl (by decide) rfl (fun ls hl => ?_)
                    refine lv_iload_n C.1 C.2.1 dL_edits_263 rfl (lv_at hl 13 rfl) ?_
                    refine jr_if_ne (tgt := 501) C r_a4 h dL_edits_264 (by decide) (fun hc264 h => ?_) (fun hc264 h => ?_)
                    · refine lv_iload C.1 C.2.1 dL_edits_267 (lv_at hl 8 rfl) ?_
                      obtain ⟨j269_29, hj269_29, h⟩ := jx_join (P := fun j269_29 : Int → Prop => ∀ (x28 : Int) (H : Heap) (locs : List Loc) (ls : Array Slot), j269_29 x28 → (x28 = 0 ∨ x28 = 1) → Hp G M s.heap H locs → lv_has ls 18 [(13, .int (jI x24)), (12, .int (jI x22)), (11, .int (jI x21)), (10, .int (jI x13)), (9, .int (jI x10)), (8, .int (jI x9)), (7, .int (jI x7)), (5, .int (jI x4)), (0, .ref (jD G a1)), (1, .int (jI a2)), (2, .int (jI a3))] → W p l e (rmm 7 176) s m args below meth c H locs 0 0 (MQ below (qZ G k) args s 0 0 (gA G)) (F0 m 306 ls [.int (jI x28)])) h (by
                        intro x28 H locs ls h z_x28 B hl
                        refine lv_istore (lv' := [(15, .int (jI x28)), (13, .int (jI x24)), (12, .int (jI x22)), (11, .int (jI x21)), (10, .int (jI x13)), (9, .int (jI x10)), (8, .int (jI x9)), (7, .int (jI x7)), (5, .int (jI x4)), (0, .ref (jD G a1)), (1, .int (jI a2)), (2, .int (jI a3))]) C.1 C.2.1 dL_edits_306 hl (by decide) rfl (fun ls hl => ?_)
                        refine lv_iload C.1 C.2.1 dL_edits_308 (lv_at hl 4 rfl) ?_
                        obtain ⟨j310_31, hj310_31, h⟩ := jx_join (P := fun j310_31 : Int → Prop => ∀ (x30 : Int) (H : Heap) (locs : List Loc) (ls : Array Slot), j310_31 x30 → (x30 = 0 ∨ x30 = 1) → Hp G M s.heap H locs → lv_has ls 18 [(15, .int (jI x28)), (13, .int (jI x24)), (12, .int (jI x22)), (11, .int (jI x21)), (10, .int (jI x13)), (9, .int (jI x10)), (8, .int (jI x9)), (7, .int (jI x7)), (5, .int (jI x4)), (0, .ref (jD G a1)), (1, .int (jI a2)), (2, .int (jI a3))] → W p l e (rmm 7 176) s m args below meth c H locs 0 0 (MQ below (qZ G k) args s 0 0 (gA G)) (F0 m 338 ls [.int (jI x30)])) h (by
                          intro x30 H locs ls h z_x30 B hl
                          refine lv_istore (lv' := [(16, .int (jI x30)), (15, .int (jI x28)), (13, .int (jI x24)), (12, .int (jI x22)), (11, .int (jI x21)), (10, .int (jI x13)), (9, .int (jI x10)), (8, .int (jI x9)), (7, .int (jI x7)), (5, .int (jI x4)), (0, .ref (jD G a1)), (1, .int (jI a2)), (2, .int (jI a3))]) C.1 C.2.1 dL_edits_338 hl (by decide) rfl (fun ls hl => ?_)
                          refine lv_aload_n C.1 C.2.1 dL_edits_340 rfl (lv_at hl 10 rfl) ?_
                          refine lv_iload_n C.1 C.2.1 dL_edits_341 rfl (lv_at hl 11 rfl) ?_
                          refine lv_iload_n C.1 C.2.1 dL_edits_342 rfl (lv_at hl 12 rfl) ?_
                          refine lv_iload C.1 C.2.1 dL_edits_343 (lv_at hl 9 rfl) ?_
                          refine lv_iload C.1 C.2.1 dL_edits_345 (lv_at hl 7 rfl) ?_
                          refine lv_iload C.1 C.2.1 dL_edits_347 (lv_at hl 5 rfl) ?_
                          refine lv_iload C.1 C.2.1 dL_edits_349 (lv_at hl 4 rfl) ?_
                          refine cl_X6_insert C hl.1 B q_474 ⟨Nat.le_of_ble_eq_true rfl, Nat.le_of_ble_eq_true rfl⟩ ⟨Nat.zero_le _, Nat.zero_le _⟩ (Nat.le_of_ble_eq_true rfl) k_a1 r_a2 r_a3 r_x4 r_x9 r_x13 r_x21 h dL_edits_351 (fun x32 M33 r_x32 _ _ h B => ?_)
                          have o_M33 := B.2.2
                          refine lv_istore (lv' := [(17, .int (jI x32)), (16, .int (jI x30)), (15, .int (jI x28)), (13, .int (jI x24)), (12, .int (jI x22)), (11, .int (jI x21)), (10, .int (jI x13)), (9, .int (jI x10)), (8, .int (jI x9)), (7, .int (jI x7)), (5, .int (jI x4)), (0, .ref (jD G a1)), (1, .int (jI a2)), (2, .int (jI a3))]) C.1 C.2.1 dL_edits_354 hl (by decide) rfl (fun ls hl => ?_)
                          refine lv_iload C.1 C.2.1 dL_edits_356 (lv_at hl 0 rfl) ?_
                          refine lv_iload C.1 C.2.1 dL_edits_358 (lv_at hl 2 rfl) ?_
                          obtain ⟨j360_35, hj360_35, h⟩ := jx_join (P := fun j360_35 : Int → Prop => ∀ (x34 : Int) (H : Heap) (locs : List Loc) (ls : Array Slot), j360_35 x34 → jR x34 → Hp G M33 s.heap H locs → lv_has ls 18 [(17, .int (jI x32)), (11, .int (jI x21)), (10, .int (jI x13)), (9, .int (jI x10)), (8, .int (jI x9)), (7, .int (jI x7)), (5, .int (jI x4)), (0, .ref (jD G a1)), (2, .int (jI a3))] → W p l e (rmm 7 176) s m args below meth c H locs 0 0 (MQ below (qZ G k) args s 0 0 (gA G)) (F0 m 414 ls [.int (jI x34), .int (jI x32)])) h (by
                            intro x34 H locs ls h r_x34 B hl
                            refine jr_icmp_ne (tgt := 499) C r_x32 r_x34 h dL_edits_414 (by decide) (fun hc414 h => ?_) (fun hc414 h => ?_)
                            · refine lv_iload C.1 C.2.1 dL_edits_417 (lv_at hl 0 rfl) ?_
                              refine jr_if_lt (tgt := 495) C r_x32 h dL_edits_419 (by decide) (fun hc419 h => ?_) (fun hc419 h => ?_)
                              · refine jr_iconst C dL_edits_495 ?_
                                refine lv_goto (tgt := 500) C.1 C.2.1 dL_edits_496 (by decide) ?_
                                exact jr_zret C B hr hlocks (Or.inr rfl) h dL_edits_500
                              · refine lv_aload_n C.1 C.2.1 dL_edits_422 rfl (lv_at hl 7 rfl) ?_
                                refine lv_iload_n C.1 C.2.1 dL_edits_423 rfl (lv_at hl 8 rfl) ?_
                                refine lv_iload C.1 C.2.1 dL_edits_424 (lv_at hl 6 rfl) ?_
                                refine lv_iload C.1 C.2.1 dL_edits_426 (lv_at hl 4 rfl) ?_
                                refine lv_iload C.1 C.2.1 dL_edits_428 (lv_at hl 2 rfl) ?_
                                obtain ⟨j430_37, hj430_37, h⟩ := jx_join (P := fun j430_37 : Int → Prop => ∀ (x36 : Int) (H : Heap) (locs : List Loc) (ls : Array Slot), j430_37 x36 → jR x36 → Hp G M33 s.heap H locs → lv_has ls 18 [(11, .int (jI x21)), (10, .int (jI x13)), (9, .int (jI x10)), (8, .int (jI x9)), (7, .int (jI x7)), (5, .int (jI x4)), (0, .ref (jD G a1)), (2, .int (jI a3))] → W p l e (rmm 7 176) s m args below meth c H locs 0 0 (MQ below (qZ G k) args s 0 0 (gA G)) (F0 m 439 ls [.int (jI x36), .int (jI x9), .int (jI x4), .int (jI a3), .ref (jD G a1)])) h (by
                                  intro x36 H locs ls h r_x36 B hl
                                  refine cl_X6_get C hl.1 B q_296 ⟨Nat.le_of_ble_eq_true rfl, Nat.le_of_ble_eq_true rfl⟩ ⟨Nat.zero_le _, Nat.zero_le _⟩ (Nat.le_of_ble_eq_true rfl) k_a1 r_a3 r_x4 r_x9 r_x36 h dL_edits_439 (fun x38 r_x38 _ _ h B => ?_)
                                  refine lv_iload C.1 C.2.1 dL_edits_442 (lv_at hl 0 rfl) ?_
                                  refine jr_icmp_ne (tgt := 499) C r_x38 r_x21 h dL_edits_444 (by decide) (fun hc444 h => ?_) (fun hc444 h => ?_)
                                  · refine lv_aload_n C.1 C.2.1 dL_edits_447 rfl (lv_at hl 6 rfl) ?_
                                    refine lv_iload_n C.1 C.2.1 dL_edits_448 rfl (lv_at hl 7 rfl) ?_
                                    refine lv_iload C.1 C.2.1 dL_edits_449 (lv_at hl 5 rfl) ?_
                                    refine cl_X6_values C hl.1 B q_275 ⟨Nat.le_of_ble_eq_true rfl, Nat.le_of_ble_eq_true rfl⟩ ⟨Nat.zero_le _, Nat.zero_le _⟩ (Nat.le_of_ble_eq_true rfl) k_a1 r_a3 r_x4 h dL_edits_451 (fun x39 r_x39 _ _ h B => ?_)
                                    refine lv_iload C.1 C.2.1 dL_edits_454 (lv_at hl 4 rfl) ?_
                                    refine lv_iload C.1 C.2.1 dL_edits_456 (lv_at hl 1 rfl) ?_
                                    obtain ⟨j458_41, hj458_41, h⟩ := jx_join (P := fun j458_41 : Int → Prop => ∀ (x40 : Int) (H : Heap) (locs : List Loc) (ls : Array Slot), j458_41 x40 → (x40 = 0 ∨ x40 = 1) → Hp G M33 s.heap H locs → lv_has ls 18 [(10, .int (jI x13)), (9, .int (jI x10)), (8, .int (jI x9)), (5, .int (jI x4)), (0, .ref (jD G a1)), (2, .int (jI a3))] → W p l e (rmm 7 176) s m args below meth c H locs 0 0 (MQ below (qZ G k) args s 0 0 (gA G)) (F0 m 466 ls [.int (jI x40), .int (jI x7), .int (jI x39)])) h (by
                                      intro x40 H locs ls h z_x40 B hl
                                      refine jr_iadd C dL_edits_466 ?_
                                      refine jr_icmp_ne (tgt := 499) C r_x39 (jW_R _) h dL_edits_467 (by decide) (fun hc467 h => ?_) (fun hc467 h => ?_)
                                      · refine lv_aload_n C.1 C.2.1 dL_edits_470 rfl (lv_at hl 4 rfl) ?_
                                        refine lv_iload_n C.1 C.2.1 dL_edits_471 rfl (lv_at hl 5 rfl) ?_
                                        refine lv_iload C.1 C.2.1 dL_edits_472 (lv_at hl 3 rfl) ?_
                                        refine lv_iload C.1 C.2.1 dL_edits_474 (lv_at hl 2 rfl) ?_
                                        refine cl_X6_subvalues C hl.1 B q_283 ⟨Nat.le_of_ble_eq_true rfl, Nat.le_of_ble_eq_true rfl⟩ ⟨Nat.zero_le _, Nat.zero_le _⟩ (Nat.le_of_ble_eq_true rfl) k_a1 r_a3 r_x4 r_x9 h dL_edits_476 (fun x42 r_x42 _ _ h B => ?_)
                                        refine lv_iload C.1 C.2.1 dL_edits_479 (lv_at hl 0 rfl) ?_
                                        refine jr_if_ge (tgt := 488) C r_x13 h dL_edits_481 (by decide) (fun hc481 h => ?_) (fun hc481 h => ?_)
                                        · refine jr_iconst C dL_edits_484 ?_
                                          refine lv_goto (tgt := 492) C.1 C.2.1 dL_edits_485 (by decide) ?_
                                          refine jr_icmp_ne (tgt := 499) C r_x42 (jkc rfl) h dL_edits_492 (by decide) (fun hc492 h => ?_) (fun hc492 h => ?_)
                                          · refine jr_iconst C dL_edits_495 ?_
                                            refine lv_goto (tgt := 500) C.1 C.2.1 dL_edits_496 (by decide) ?_
                                            exact jr_zret C B hr hlocks (Or.inr rfl) h dL_edits_500
                                          · refine jr_iconst C dL_edits_499 ?_
                                            exact jr_zret C B hr hlocks (Or.inl rfl) h dL_edits_500
                                        · refine lv_iload C.1 C.2.1 dL_edits_488 (lv_at hl 1 rfl) ?_
                                          refine jr_iconst C dL_edits_490 ?_
                                          refine jr_iadd C dL_edits_491 ?_
                                          refine jr_icmp_ne (tgt := 499) C r_x42 (jW_R _) h dL_edits_492 (by decide) (fun hc492 h => ?_) (fun hc492 h => ?_)
                                          · refine jr_iconst C dL_edits_495 ?_
                                            refine lv_goto (tgt := 500) C.1 C.2.1 dL_edits_496 (by decide) ?_
                                            exact jr_zret C B hr hlocks (Or.inr rfl) h dL_edits_500
                                          · refine jr_iconst C dL_edits_499 ?_
                                            exact jr_zret C B hr hlocks (Or.inl rfl) h dL_edits_500
                                      · refine jr_iconst C dL_edits_499 ?_
                                        exact jr_zret C B hr hlocks (Or.inl rfl) h dL_edits_500)
                                    refine jr_if_ge (tgt := 465) C r_x13 h dL_edits_458 (by decide) (fun hc458 h => ?_) (fun hc458 h => ?_)
                                    · refine jr_iconst C dL_edits_461 ?_
                                      refine lv_goto (tgt := 466) C.1 C.2.1 dL_edits_462 (by decide) ?_
                                      exact hj458_41 _ _ _ _ h (Or.inr rfl) B (lv_sub hl [1, 2, 3, 5, 6, 7] rfl)
                                    · refine jr_iconst C dL_edits_465 ?_
                                      exact hj458_41 _ _ _ _ h (Or.inl rfl) B (lv_sub hl [1, 2, 3, 5, 6, 7] rfl)
                                  · refine jr_iconst C dL_edits_499 ?_
                                    exact jr_zret C B hr hlocks (Or.inl rfl) h dL_edits_500)
                                refine jr_if_ge (tgt := 437) C r_x13 h dL_edits_430 (by decide) (fun hc430 h => ?_) (fun hc430 h => ?_)
                                · refine jr_iconst C dL_edits_433 ?_
                                  refine lv_goto (tgt := 439) C.1 C.2.1 dL_edits_434 (by decide) ?_
                                  exact hj430_37 _ _ _ _ h (jkc rfl) B (lv_sub hl [1, 2, 3, 4, 5, 6, 7, 8] rfl)
                                · refine lv_iload C.1 C.2.1 dL_edits_437 (lv_at hl 2 rfl) ?_
                                  exact hj430_37 _ _ _ _ h r_x13 B (lv_sub hl [1, 2, 3, 4, 5, 6, 7, 8] rfl)
                            · refine jr_iconst C dL_edits_499 ?_
                              exact jr_zret C B hr hlocks (Or.inl rfl) h dL_edits_500)
                          refine jr_if_eq (tgt := 368) C (zR z_x28) h dL_edits_360 (by decide) (fun hc360 h => ?_) (fun hc360 h => ?_)
                          · refine lv_iload C.1 C.2.1 dL_edits_368 (lv_at hl 4 rfl) ?_
                            refine jr_if_eq (tgt := 378) C (zR z_x22) h dL_edits_370 (by decide) (fun hc370 h => ?_) (fun hc370 h => ?_)
                            · refine lv_iload C.1 C.2.1 dL_edits_378 (lv_at hl 3 rfl) ?_
                              refine jr_if_eq (tgt := 388) C (zR z_x24) h dL_edits_380 (by decide) (fun hc380 h => ?_) (fun hc380 h => ?_)
                              · refine lv_iload C.1 C.2.1 dL_edits_388 (lv_at hl 1 rfl) ?_
                                refine jr_if_eq (tgt := 398) C (zR z_x30) h dL_edits_390 (by decide) (fun hc390 h => ?_) (fun hc390 h => ?_)
                                · refine lv_iload C.1 C.2.1 dL_edits_398 (lv_at hl 6 rfl) ?_
                                  refine jr_if_ge (tgt := 410) C r_x13 h dL_edits_400 (by decide) (fun hc400 h => ?_) (fun hc400 h => ?_)
                                  · refine lv_iload C.1 C.2.1 dL_edits_403 (lv_at hl 9 rfl) ?_
                                    refine jr_iconst C dL_edits_405 ?_
                                    refine jr_iadd C dL_edits_406 ?_
                                    refine lv_goto (tgt := 414) C.1 C.2.1 dL_edits_407 (by decide) ?_
                                    exact hj360_35 _ _ _ _ h (jW_R _) B (lv_sub hl [0, 5, 6, 7, 8, 9, 10, 11, 13] rfl)
                                  · refine lv_iload C.1 C.2.1 dL_edits_410 (lv_at hl 7 rfl) ?_
                                    refine jr_iconst C dL_edits_412 ?_
                                    refine jr_iadd C dL_edits_413 ?_
                                    exact hj360_35 _ _ _ _ h (jW_R _) B (lv_sub hl [0, 5, 6, 7, 8, 9, 10, 11, 13] rfl)
                                · refine jr_ldc (n := -1000004) C q_470 (by decide) dL_edits_393 ?_
                                  refine lv_goto (tgt := 414) C.1 C.2.1 dL_edits_395 (by decide) ?_
                                  exact hj360_35 _ _ _ _ h (jkc rfl) B (lv_sub hl [0, 5, 6, 7, 8, 9, 10, 11, 13] rfl)
                              · refine jr_ldc (n := -1000006) C q_511 (by decide) dL_edits_383 ?_
                                refine lv_goto (tgt := 414) C.1 C.2.1 dL_edits_385 (by decide) ?_
                                exact hj360_35 _ _ _ _ h (jkc rfl) B (lv_sub hl [0, 5, 6, 7, 8, 9, 10, 11, 13] rfl)
                            · refine jr_ldc (n := -1000002) C q_314 (by decide) dL_edits_373 ?_
                              refine lv_goto (tgt := 414) C.1 C.2.1 dL_edits_375 (by decide) ?_
                              exact hj360_35 _ _ _ _ h (jkc rfl) B (lv_sub hl [0, 5, 6, 7, 8, 9, 10, 11, 13] rfl)
                          · refine jr_ldc (n := -1000001) C q_315 (by decide) dL_edits_363 ?_
                            refine lv_goto (tgt := 414) C.1 C.2.1 dL_edits_365 (by decide) ?_
                            exact hj360_35 _ _ _ _ h (jkc rfl) B (lv_sub hl [0, 5, 6, 7, 8, 9, 10, 11, 13] rfl))
                        refine jr_if_ge (tgt := 327) C r_x13 h dL_edits_310 (by decide) (fun hc310 h => ?_) (fun hc310 h => ?_)
                        · refine lv_iload C.1 C.2.1 dL_edits_313 (lv_at hl 7 rfl) ?_
                          refine jr_iconst C dL_edits_315 ?_
                          refine jr_icmp_ne (tgt := 323) C r_x7 (jkc rfl) h dL_edits_316 (by decide) (fun hc316 h => ?_) (fun hc316 h => ?_)
                          · refine jr_iconst C dL_edits_319 ?_
                            refine lv_goto (tgt := 338) C.1 C.2.1 dL_edits_320 (by decide) ?_
                            exact hj310_31 _ _ _ _ h (Or.inr rfl) B (lv_sub hl [0, 1, 2, 3, 4, 5, 6, 7, 8, 9, 10, 11] rfl)
                          · refine jr_iconst C dL_edits_323 ?_
                            refine lv_goto (tgt := 338) C.1 C.2.1 dL_edits_324 (by decide) ?_
                            exact hj310_31 _ _ _ _ h (Or.inl rfl) B (lv_sub hl [0, 1, 2, 3, 4, 5, 6, 7, 8, 9, 10, 11] rfl)
                        · refine lv_iload C.1 C.2.1 dL_edits_327 (lv_at hl 5 rfl) ?_
                          refine jr_iconst C dL_edits_329 ?_
                          refine jr_icmp_ne (tgt := 337) C r_x10 (jkc rfl) h dL_edits_330 (by decide) (fun hc330 h => ?_) (fun hc330 h => ?_)
                          · refine jr_iconst C dL_edits_333 ?_
                            refine lv_goto (tgt := 338) C.1 C.2.1 dL_edits_334 (by decide) ?_
                            exact hj310_31 _ _ _ _ h (Or.inr rfl) B (lv_sub hl [0, 1, 2, 3, 4, 5, 6, 7, 8, 9, 10, 11] rfl)
                          · refine jr_iconst C dL_edits_337 ?_
                            exact hj310_31 _ _ _ _ h (Or.inl rfl) B (lv_sub hl [0, 1, 2, 3, 4, 5, 6, 7, 8, 9, 10, 11] rfl))
                      refine jr_if_ne (tgt := 301) C (zR z_x5) h dL_edits_269 (by decide) (fun hc269 h => ?_) (fun hc269 h => ?_)
                      · refine lv_iload C.1 C.2.1 dL_edits_272 (lv_at hl 4 rfl) ?_
                        refine jr_if_ge (tgt := 287) C r_x13 h dL_edits_274 (by decide) (fun hc274 h => ?_) (fun hc274 h => ?_)
                        · refine lv_iload C.1 C.2.1 dL_edits_277 (lv_at hl 6 rfl) ?_
                          refine lv_iload C.1 C.2.1 dL_edits_279 (lv_at hl 7 rfl) ?_
                          refine jr_icmp_le (tgt := 305) C r_x9 r_x7 h dL_edits_281 (by decide) (fun hc281 h => ?_) (fun hc281 h => ?_)
                          · refine jr_iconst C dL_edits_305 ?_
                            exact hj269_29 _ _ _ _ h (Or.inl rfl) B (lv_sub hl [1, 2, 3, 4, 5, 6, 7, 9, 10, 11, 12] rfl)
                          · refine lv_goto (tgt := 301) C.1 C.2.1 dL_edits_284 (by decide) ?_
                            refine jr_iconst C dL_edits_301 ?_
                            refine lv_goto (tgt := 306) C.1 C.2.1 dL_edits_302 (by decide) ?_
                            exact hj269_29 _ _ _ _ h (Or.inr rfl) B (lv_sub hl [1, 2, 3, 4, 5, 6, 7, 9, 10, 11, 12] rfl)
                        · refine lv_iload C.1 C.2.1 dL_edits_287 (lv_at hl 6 rfl) ?_
                          refine lv_iload C.1 C.2.1 dL_edits_289 (lv_at hl 7 rfl) ?_
                          refine jr_icmp_ge (tgt := 301) C r_x9 r_x7 h dL_edits_291 (by decide) (fun hc291 h => ?_) (fun hc291 h => ?_)
                          · refine lv_iload C.1 C.2.1 dL_edits_294 (lv_at hl 4 rfl) ?_
                            refine lv_iload C.1 C.2.1 dL_edits_296 (lv_at hl 5 rfl) ?_
                            refine jr_icmp_le (tgt := 305) C r_x13 r_x10 h dL_edits_298 (by decide) (fun hc298 h => ?_) (fun hc298 h => ?_)
                            · refine jr_iconst C dL_edits_305 ?_
                              exact hj269_29 _ _ _ _ h (Or.inl rfl) B (lv_sub hl [1, 2, 3, 4, 5, 6, 7, 9, 10, 11, 12] rfl)
                            · refine jr_iconst C dL_edits_301 ?_
                              refine lv_goto (tgt := 306) C.1 C.2.1 dL_edits_302 (by decide) ?_
                              exact hj269_29 _ _ _ _ h (Or.inr rfl) B (lv_sub hl [1, 2, 3, 4, 5, 6, 7, 9, 10, 11, 12] rfl)
                          · refine jr_iconst C dL_edits_301 ?_
                            refine lv_goto (tgt := 306) C.1 C.2.1 dL_edits_302 (by decide) ?_
                            exact hj269_29 _ _ _ _ h (Or.inr rfl) B (lv_sub hl [1, 2, 3, 4, 5, 6, 7, 9, 10, 11, 12] rfl)
                      · refine jr_iconst C dL_edits_301 ?_
                        refine lv_goto (tgt := 306) C.1 C.2.1 dL_edits_302 (by decide) ?_
                        exact hj269_29 _ _ _ _ h (Or.inr rfl) B (lv_sub hl [1, 2, 3, 4, 5, 6, 7, 9, 10, 11, 12] rfl)
                    · refine lv_iload_n C.1 C.2.1 dL_edits_501 rfl (lv_at hl 13 rfl) ?_
                      refine jr_iconst C dL_edits_502 ?_
                      refine jr_icmp_ne (tgt := 605) C r_a4 (jkc rfl) h dL_edits_503 (by decide) (fun hc503 h => ?_) (fun hc503 h => ?_)
                      · refine lv_aload_n C.1 C.2.1 dL_edits_506 rfl (lv_at hl 10 rfl) ?_
                        refine lv_iload_n C.1 C.2.1 dL_edits_507 rfl (lv_at hl 11 rfl) ?_
                        refine lv_iload_n C.1 C.2.1 dL_edits_508 rfl (lv_at hl 12 rfl) ?_
                        refine lv_iload C.1 C.2.1 dL_edits_509 (lv_at hl 9 rfl) ?_
                        refine lv_iload C.1 C.2.1 dL_edits_511 (lv_at hl 6 rfl) ?_
                        refine lv_iload C.1 C.2.1 dL_edits_513 (lv_at hl 4 rfl) ?_
                        refine lv_iload C.1 C.2.1 dL_edits_515 (lv_at hl 3 rfl) ?_
                        refine cl_X6_change C hl.1 B q_512 ⟨Nat.le_of_ble_eq_true rfl, Nat.le_of_ble_eq_true rfl⟩ ⟨Nat.zero_le _, Nat.zero_le _⟩ (Nat.le_of_ble_eq_true rfl) k_a1 r_a2 r_a3 r_x4 r_x9 r_x13 r_x21 h dL_edits_517 (fun x43 M44 r_x43 _ _ h B => ?_)
                        have o_M44 := B.2.2
                        refine lv_istore (lv' := [(15, .int (jI x43)), (14, .int (jI x26)), (13, .int (jI x24)), (12, .int (jI x22)), (11, .int (jI x21)), (10, .int (jI x13)), (9, .int (jI x10)), (8, .int (jI x9)), (7, .int (jI x7)), (6, .int (jI x5)), (5, .int (jI x4)), (0, .ref (jD G a1)), (1, .int (jI a2)), (2, .int (jI a3)), (3, .int (jI a4))]) C.1 C.2.1 dL_edits_520 hl (by decide) rfl (fun ls hl => ?_)
                        refine lv_iload C.1 C.2.1 dL_edits_522 (lv_at hl 0 rfl) ?_
                        refine lv_iload C.1 C.2.1 dL_edits_524 (lv_at hl 1 rfl) ?_
                        refine jr_ldc (n := -1000001) C q_315 (by decide) dL_edits_526 ?_
                        obtain ⟨j528_46, hj528_46, h⟩ := jx_join (P := fun j528_46 : Int → Prop => ∀ (x45 : Int) (H : Heap) (locs : List Loc) (ls : Array Slot), j528_46 x45 → jR x45 → Hp G M44 s.heap H locs → lv_has ls 18 [(14, .int (jI x26)), (13, .int (jI x24)), (12, .int (jI x22)), (11, .int (jI x21)), (10, .int (jI x13)), (8, .int (jI x9)), (5, .int (jI x4)), (0, .ref (jD G a1)), (2, .int (jI a3))] → W p l e (rmm 7 176) s m args below meth c H locs 0 0 (MQ below (qZ G k) args s 0 0 (gA G)) (F0 m 558 ls [.int (jI x45), .int (jI x43)])) h (by
                          intro x45 H locs ls h r_x45 B hl
                          refine jr_icmp_ne (tgt := 603) C r_x43 r_x45 h dL_edits_558 (by decide) (fun hc558 h => ?_) (fun hc558 h => ?_)
                          · refine lv_iload C.1 C.2.1 dL_edits_561 (lv_at hl 0 rfl) ?_
                            refine jr_ldc (n := -1000001) C q_315 (by decide) dL_edits_563 ?_
                            refine jr_icmp_eq (tgt := 599) C r_x26 (jkc rfl) h dL_edits_565 (by decide) (fun hc565 h => ?_) (fun hc565 h => ?_)
                            · refine jr_iconst C dL_edits_599 ?_
                              refine lv_goto (tgt := 604) C.1 C.2.1 dL_edits_600 (by decide) ?_
                              exact jr_zret C B hr hlocks (Or.inr rfl) h dL_edits_604
                            · refine lv_aload_n C.1 C.2.1 dL_edits_568 rfl (lv_at hl 7 rfl) ?_
                              refine lv_iload_n C.1 C.2.1 dL_edits_569 rfl (lv_at hl 8 rfl) ?_
                              refine lv_iload C.1 C.2.1 dL_edits_570 (lv_at hl 6 rfl) ?_
                              refine lv_iload C.1 C.2.1 dL_edits_572 (lv_at hl 5 rfl) ?_
                              refine lv_iload C.1 C.2.1 dL_edits_574 (lv_at hl 4 rfl) ?_
                              refine cl_X6_get C hl.1 B q_296 ⟨Nat.le_of_ble_eq_true rfl, Nat.le_of_ble_eq_true rfl⟩ ⟨Nat.zero_le _, Nat.zero_le _⟩ (Nat.le_of_ble_eq_true rfl) k_a1 r_a3 r_x4 r_x9 r_x13 h dL_edits_576 (fun x47 r_x47 _ _ h B => ?_)
                              refine lv_iload C.1 C.2.1 dL_edits_579 (lv_at hl 2 rfl) ?_
                              refine jr_if_ne (tgt := 589) C (zR z_x22) h dL_edits_581 (by decide) (fun hc581 h => ?_) (fun hc581 h => ?_)
                              · refine lv_iload C.1 C.2.1 dL_edits_584 (lv_at hl 1 rfl) ?_
                                refine jr_if_eq (tgt := 594) C (zR z_x24) h dL_edits_586 (by decide) (fun hc586 h => ?_) (fun hc586 h => ?_)
                                · refine lv_iload C.1 C.2.1 dL_edits_594 (lv_at hl 3 rfl) ?_
                                  refine jr_icmp_ne (tgt := 603) C r_x47 r_x21 h dL_edits_596 (by decide) (fun hc596 h => ?_) (fun hc596 h => ?_)
                                  · refine jr_iconst C dL_edits_599 ?_
                                    refine lv_goto (tgt := 604) C.1 C.2.1 dL_edits_600 (by decide) ?_
                                    exact jr_zret C B hr hlocks (Or.inr rfl) h dL_edits_604
                                  · refine jr_iconst C dL_edits_603 ?_
                                    exact jr_zret C B hr hlocks (Or.inl rfl) h dL_edits_604
                                · refine lv_iload C.1 C.2.1 dL_edits_589 (lv_at hl 0 rfl) ?_
                                  refine lv_goto (tgt := 596) C.1 C.2.1 dL_edits_591 (by decide) ?_
                                  refine jr_icmp_ne (tgt := 603) C r_x47 r_x26 h dL_edits_596 (by decide) (fun hc596 h => ?_) (fun hc596 h => ?_)
                                  · refine jr_iconst C dL_edits_599 ?_
                                    refine lv_goto (tgt := 604) C.1 C.2.1 dL_edits_600 (by decide) ?_
                                    exact jr_zret C B hr hlocks (Or.inr rfl) h dL_edits_604
                                  · refine jr_iconst C dL_edits_603 ?_
                                    exact jr_zret C B hr hlocks (Or.inl rfl) h dL_edits_604
                              · refine lv_iload C.1 C.2.1 dL_edits_589 (lv_at hl 0 rfl) ?_
                                refine lv_goto (tgt := 596) C.1 C.2.1 dL_edits_591 (by decide) ?_
                                refine jr_icmp_ne (tgt := 603) C r_x47 r_x26 h dL_edits_596 (by decide) (fun hc596 h => ?_) (fun hc596 h => ?_)
                                · refine jr_iconst C dL_edits_599 ?_
                                  refine lv_goto (tgt := 604) C.1 C.2.1 dL_edits_600 (by decide) ?_
                                  exact jr_zret C B hr hlocks (Or.inr rfl) h dL_edits_604
                                · refine jr_iconst C dL_edits_603 ?_
                                  exact jr_zret C B hr hlocks (Or.inl rfl) h dL_edits_604
                          · refine jr_iconst C dL_edits_603 ?_
                            exact jr_zret C B hr hlocks (Or.inl rfl) h dL_edits_604)
                        refine jr_icmp_ne (tgt := 536) C r_x26 (jkc rfl) h dL_edits_528 (by decide) (fun hc528 h => ?_) (fun hc528 h => ?_)
                        · refine jr_ldc (n := -1000001) C q_315 (by decide) dL_edits_531 ?_
                          refine lv_goto (tgt := 558) C.1 C.2.1 dL_edits_533 (by decide) ?_
                          exact hj528_46 _ _ _ _ h (jkc rfl) B (lv_sub hl [1, 2, 3, 4, 5, 7, 10, 11, 13] rfl)
                        · refine lv_iload C.1 C.2.1 dL_edits_536 (lv_at hl 3 rfl) ?_
                          refine jr_if_eq (tgt := 546) C (zR z_x22) h dL_edits_538 (by decide) (fun hc538 h => ?_) (fun hc538 h => ?_)
                          · refine lv_iload C.1 C.2.1 dL_edits_546 (lv_at hl 2 rfl) ?_
                            refine jr_if_eq (tgt := 556) C (zR z_x24) h dL_edits_548 (by decide) (fun hc548 h => ?_) (fun hc548 h => ?_)
                            · refine lv_iload C.1 C.2.1 dL_edits_556 (lv_at hl 1 rfl) ?_
                              exact hj528_46 _ _ _ _ h r_x26 B (lv_sub hl [1, 2, 3, 4, 5, 7, 10, 11, 13] rfl)
                            · refine jr_ldc (n := -1000006) C q_511 (by decide) dL_edits_551 ?_
                              refine lv_goto (tgt := 558) C.1 C.2.1 dL_edits_553 (by decide) ?_
                              exact hj528_46 _ _ _ _ h (jkc rfl) B (lv_sub hl [1, 2, 3, 4, 5, 7, 10, 11, 13] rfl)
                          · refine jr_ldc (n := -1000002) C q_314 (by decide) dL_edits_541 ?_
                            refine lv_goto (tgt := 558) C.1 C.2.1 dL_edits_543 (by decide) ?_
                            exact hj528_46 _ _ _ _ h (jkc rfl) B (lv_sub hl [1, 2, 3, 4, 5, 7, 10, 11, 13] rfl)
                      · refine lv_iload C.1 C.2.1 dL_edits_605 (lv_at hl 8 rfl) ?_
                        obtain ⟨j607_49, hj607_49, h⟩ := jx_join (P := fun j607_49 : Int → Prop => ∀ (x48 : Int) (H : Heap) (locs : List Loc) (ls : Array Slot), j607_49 x48 → (x48 = 0 ∨ x48 = 1) → Hp G M s.heap H locs → lv_has ls 18 [(13, .int (jI x24)), (10, .int (jI x13)), (9, .int (jI x10)), (8, .int (jI x9)), (7, .int (jI x7)), (5, .int (jI x4)), (0, .ref (jD G a1)), (1, .int (jI a2)), (2, .int (jI a3))] → W p l e (rmm 7 176) s m args below meth c H locs 0 0 (MQ below (qZ G k) args s 0 0 (gA G)) (F0 m 634 ls [.int (jI x48)])) h (by
                          intro x48 H locs ls h z_x48 B hl
                          refine lv_istore (lv' := [(15, .int (jI x48)), (13, .int (jI x24)), (10, .int (jI x13)), (9, .int (jI x10)), (8, .int (jI x9)), (7, .int (jI x7)), (5, .int (jI x4)), (0, .ref (jD G a1)), (1, .int (jI a2)), (2, .int (jI a3))]) C.1 C.2.1 dL_edits_634 hl (by decide) rfl (fun ls hl => ?_)
                          refine lv_iload C.1 C.2.1 dL_edits_636 (lv_at hl 2 rfl) ?_
                          obtain ⟨j638_51, hj638_51, h⟩ := jx_join (P := fun j638_51 : Int → Prop => ∀ (x50 : Int) (H : Heap) (locs : List Loc) (ls : Array Slot), j638_51 x50 → (x50 = 0 ∨ x50 = 1) → Hp G M s.heap H locs → lv_has ls 18 [(15, .int (jI x48)), (13, .int (jI x24)), (10, .int (jI x13)), (9, .int (jI x10)), (8, .int (jI x9)), (7, .int (jI x7)), (5, .int (jI x4)), (0, .ref (jD G a1)), (1, .int (jI a2)), (2, .int (jI a3))] → W p l e (rmm 7 176) s m args below meth c H locs 0 0 (MQ below (qZ G k) args s 0 0 (gA G)) (F0 m 652 ls [.int (jI x50)])) h (by
                            intro x50 H locs ls h z_x50 B hl
                            refine lv_istore (lv' := [(16, .int (jI x50)), (15, .int (jI x48)), (13, .int (jI x24)), (10, .int (jI x13)), (9, .int (jI x10)), (8, .int (jI x9)), (7, .int (jI x7)), (5, .int (jI x4)), (0, .ref (jD G a1)), (1, .int (jI a2)), (2, .int (jI a3))]) C.1 C.2.1 dL_edits_652 hl (by decide) rfl (fun ls hl => ?_)
                            refine lv_aload_n C.1 C.2.1 dL_edits_654 rfl (lv_at hl 8 rfl) ?_
                            refine lv_iload_n C.1 C.2.1 dL_edits_655 rfl (lv_at hl 9 rfl) ?_
                            refine lv_iload_n C.1 C.2.1 dL_edits_656 rfl (lv_at hl 10 rfl) ?_
                            refine lv_iload C.1 C.2.1 dL_edits_657 (lv_at hl 7 rfl) ?_
                            refine lv_iload C.1 C.2.1 dL_edits_659 (lv_at hl 5 rfl) ?_
                            refine lv_iload C.1 C.2.1 dL_edits_661 (lv_at hl 3 rfl) ?_
                            refine cl_X6_remove C hl.1 B q_517 ⟨Nat.le_of_ble_eq_true rfl, Nat.le_of_ble_eq_true rfl⟩ ⟨Nat.zero_le _, Nat.zero_le _⟩ (Nat.le_of_ble_eq_true rfl) k_a1 r_a2 r_a3 r_x4 r_x9 r_x13 h dL_edits_663 (fun x52 M53 r_x52 _ _ h B => ?_)
                            have o_M53 := B.2.2
                            refine lv_istore (lv' := [(17, .int (jI x52)), (16, .int (jI x50)), (15, .int (jI x48)), (13, .int (jI x24)), (10, .int (jI x13)), (9, .int (jI x10)), (8, .int (jI x9)), (7, .int (jI x7)), (5, .int (jI x4)), (0, .ref (jD G a1)), (1, .int (jI a2)), (2, .int (jI a3))]) C.1 C.2.1 dL_edits_666 hl (by decide) rfl (fun ls hl => ?_)
                            refine lv_iload C.1 C.2.1 dL_edits_668 (lv_at hl 0 rfl) ?_
                            refine lv_iload C.1 C.2.1 dL_edits_670 (lv_at hl 2 rfl) ?_
                            obtain ⟨j672_55, hj672_55, h⟩ := jx_join (P := fun j672_55 : Int → Prop => ∀ (x54 : Int) (H : Heap) (locs : List Loc) (ls : Array Slot), j672_55 x54 → jR x54 → Hp G M53 s.heap H locs → lv_has ls 18 [(17, .int (jI x52)), (16, .int (jI x50)), (9, .int (jI x10)), (8, .int (jI x9)), (5, .int (jI x4)), (0, .ref (jD G a1)), (2, .int (jI a3))] → W p l e (rmm 7 176) s m args below meth c H locs 0 0 (MQ below (qZ G k) args s 0 0 (gA G)) (F0 m 703 ls [.int (jI x54), .int (jI x52)])) h (by
                              intro x54 H locs ls h r_x54 B hl
                              refine jr_icmp_ne (tgt := 748) C r_x52 r_x54 h dL_edits_703 (by decide) (fun hc703 h => ?_) (fun hc703 h => ?_)
                              · refine lv_iload C.1 C.2.1 dL_edits_706 (lv_at hl 0 rfl) ?_
                                refine jr_if_lt (tgt := 744) C r_x52 h dL_edits_708 (by decide) (fun hc708 h => ?_) (fun hc708 h => ?_)
                                · refine jr_iconst C dL_edits_744 ?_
                                  refine lv_goto (tgt := 749) C.1 C.2.1 dL_edits_745 (by decide) ?_
                                  exact jr_zret C B hr hlocks (Or.inr rfl) h dL_edits_749
                                · refine lv_aload_n C.1 C.2.1 dL_edits_711 rfl (lv_at hl 5 rfl) ?_
                                  refine lv_iload_n C.1 C.2.1 dL_edits_712 rfl (lv_at hl 6 rfl) ?_
                                  refine lv_iload C.1 C.2.1 dL_edits_713 (lv_at hl 4 rfl) ?_
                                  refine cl_X6_values C hl.1 B q_275 ⟨Nat.le_of_ble_eq_true rfl, Nat.le_of_ble_eq_true rfl⟩ ⟨Nat.zero_le _, Nat.zero_le _⟩ (Nat.le_of_ble_eq_true rfl) k_a1 r_a3 r_x4 h dL_edits_715 (fun x56 r_x56 _ _ h B => ?_)
                                  refine lv_iload C.1 C.2.1 dL_edits_718 (lv_at hl 0 rfl) ?_
                                  refine jr_icmp_ne (tgt := 748) C r_x56 r_x52 h dL_edits_720 (by decide) (fun hc720 h => ?_) (fun hc720 h => ?_)
                                  · refine lv_iload C.1 C.2.1 dL_edits_723 (lv_at hl 1 rfl) ?_
                                    refine jr_if_ne (tgt := 744) C (zR z_x50) h dL_edits_725 (by decide) (fun hc725 h => ?_) (fun hc725 h => ?_)
                                    · refine lv_aload_n C.1 C.2.1 dL_edits_728 rfl (lv_at hl 5 rfl) ?_
                                      refine lv_iload_n C.1 C.2.1 dL_edits_729 rfl (lv_at hl 6 rfl) ?_
                                      refine lv_iload C.1 C.2.1 dL_edits_730 (lv_at hl 4 rfl) ?_
                                      refine lv_iload C.1 C.2.1 dL_edits_732 (lv_at hl 3 rfl) ?_
                                      refine cl_X6_subvalues C hl.1 B q_283 ⟨Nat.le_of_ble_eq_true rfl, Nat.le_of_ble_eq_true rfl⟩ ⟨Nat.zero_le _, Nat.zero_le _⟩ (Nat.le_of_ble_eq_true rfl) k_a1 r_a3 r_x4 r_x9 h dL_edits_734 (fun x57 r_x57 _ _ h B => ?_)
                                      refine lv_iload C.1 C.2.1 dL_edits_737 (lv_at hl 2 rfl) ?_
                                      refine jr_iconst C dL_edits_739 ?_
                                      refine jr_isub C dL_edits_740 ?_
                                      refine jr_icmp_ne (tgt := 748) C r_x57 (jW_R _) h dL_edits_741 (by decide) (fun hc741 h => ?_) (fun hc741 h => ?_)
                                      · refine jr_iconst C dL_edits_744 ?_
                                        refine lv_goto (tgt := 749) C.1 C.2.1 dL_edits_745 (by decide) ?_
                                        exact jr_zret C B hr hlocks (Or.inr rfl) h dL_edits_749
                                      · refine jr_iconst C dL_edits_748 ?_
                                        exact jr_zret C B hr hlocks (Or.inl rfl) h dL_edits_749
                                    · refine jr_iconst C dL_edits_744 ?_
                                      refine lv_goto (tgt := 749) C.1 C.2.1 dL_edits_745 (by decide) ?_
                                      exact jr_zret C B hr hlocks (Or.inr rfl) h dL_edits_749
                                  · refine jr_iconst C dL_edits_748 ?_
                                    exact jr_zret C B hr hlocks (Or.inl rfl) h dL_edits_749
                              · refine jr_iconst C dL_edits_748 ?_
                                exact jr_zret C B hr hlocks (Or.inl rfl) h dL_edits_749)
                            refine jr_if_eq (tgt := 680) C (zR z_x48) h dL_edits_672 (by decide) (fun hc672 h => ?_) (fun hc672 h => ?_)
                            · refine lv_iload C.1 C.2.1 dL_edits_680 (lv_at hl 3 rfl) ?_
                              refine jr_if_eq (tgt := 690) C (zR z_x24) h dL_edits_682 (by decide) (fun hc682 h => ?_) (fun hc682 h => ?_)
                              · refine lv_iload C.1 C.2.1 dL_edits_690 (lv_at hl 7 rfl) ?_
                                refine lv_iload C.1 C.2.1 dL_edits_692 (lv_at hl 1 rfl) ?_
                                refine jr_if_eq (tgt := 701) C (zR z_x50) h dL_edits_694 (by decide) (fun hc694 h => ?_) (fun hc694 h => ?_)
                                · refine jr_iconst C dL_edits_701 ?_
                                  refine jr_isub C dL_edits_702 ?_
                                  exact hj672_55 _ _ _ _ h (jW_R _) B (lv_sub hl [0, 1, 5, 6, 8, 9, 11] rfl)
                                · refine jr_iconst C dL_edits_697 ?_
                                  refine lv_goto (tgt := 702) C.1 C.2.1 dL_edits_698 (by decide) ?_
                                  refine jr_isub C dL_edits_702 ?_
                                  exact hj672_55 _ _ _ _ h (jW_R _) B (lv_sub hl [0, 1, 5, 6, 8, 9, 11] rfl)
                              · refine jr_ldc (n := -1000006) C q_511 (by decide) dL_edits_685 ?_
                                refine lv_goto (tgt := 703) C.1 C.2.1 dL_edits_687 (by decide) ?_
                                exact hj672_55 _ _ _ _ h (jkc rfl) B (lv_sub hl [0, 1, 5, 6, 8, 9, 11] rfl)
                            · refine jr_ldc (n := -1000001) C q_315 (by decide) dL_edits_675 ?_
                              refine lv_goto (tgt := 703) C.1 C.2.1 dL_edits_677 (by decide) ?_
                              exact hj672_55 _ _ _ _ h (jkc rfl) B (lv_sub hl [0, 1, 5, 6, 8, 9, 11] rfl))
                          refine jr_if_lt (tgt := 647) C r_x13 h dL_edits_638 (by decide) (fun hc638 h => ?_) (fun hc638 h => ?_)
                          · refine jr_iconst C dL_edits_647 ?_
                            refine lv_goto (tgt := 652) C.1 C.2.1 dL_edits_648 (by decide) ?_
                            exact hj638_51 _ _ _ _ h (Or.inr rfl) B (lv_sub hl [0, 1, 2, 3, 4, 5, 6, 7, 8, 9] rfl)
                          · refine lv_iload C.1 C.2.1 dL_edits_641 (lv_at hl 3 rfl) ?_
                            refine jr_iconst C dL_edits_643 ?_
                            refine jr_icmp_ne (tgt := 651) C r_x10 (jkc rfl) h dL_edits_644 (by decide) (fun hc644 h => ?_) (fun hc644 h => ?_)
                            · refine jr_iconst C dL_edits_647 ?_
                              refine lv_goto (tgt := 652) C.1 C.2.1 dL_edits_648 (by decide) ?_
                              exact hj638_51 _ _ _ _ h (Or.inr rfl) B (lv_sub hl [0, 1, 2, 3, 4, 5, 6, 7, 8, 9] rfl)
                            · refine jr_iconst C dL_edits_651 ?_
                              exact hj638_51 _ _ _ _ h (Or.inl rfl) B (lv_sub hl [0, 1, 2, 3, 4, 5, 6, 7, 8, 9] rfl))
                        refine jr_if_ne (tgt := 629) C (zR z_x5) h dL_edits_607 (by decide) (fun hc607 h => ?_) (fun hc607 h => ?_)
                        · refine lv_iload C.1 C.2.1 dL_edits_610 (lv_at hl 6 rfl) ?_
                          refine lv_iload C.1 C.2.1 dL_edits_612 (lv_at hl 7 rfl) ?_
                          refine jr_icmp_ge (tgt := 629) C r_x9 r_x7 h dL_edits_614 (by decide) (fun hc614 h => ?_) (fun hc614 h => ?_)
                          · refine lv_iload C.1 C.2.1 dL_edits_617 (lv_at hl 4 rfl) ?_
                            refine jr_if_lt (tgt := 633) C r_x13 h dL_edits_619 (by decide) (fun hc619 h => ?_) (fun hc619 h => ?_)
                            · refine jr_iconst C dL_edits_633 ?_
                              exact hj607_49 _ _ _ _ h (Or.inl rfl) B (lv_sub hl [1, 4, 5, 6, 7, 9, 10, 11, 12] rfl)
                            · refine lv_iload C.1 C.2.1 dL_edits_622 (lv_at hl 0 rfl) ?_
                              refine jr_ldc (n := -1000001) C q_315 (by decide) dL_edits_624 ?_
                              refine jr_icmp_ne (tgt := 633) C r_x26 (jkc rfl) h dL_edits_626 (by decide) (fun hc626 h => ?_) (fun hc626 h => ?_)
                              · refine jr_iconst C dL_edits_629 ?_
                                refine lv_goto (tgt := 634) C.1 C.2.1 dL_edits_630 (by decide) ?_
                                exact hj607_49 _ _ _ _ h (Or.inr rfl) B (lv_sub hl [1, 4, 5, 6, 7, 9, 10, 11, 12] rfl)
                              · refine jr_iconst C dL_edits_633 ?_
                                exact hj607_49 _ _ _ _ h (Or.inl rfl) B (lv_sub hl [1, 4, 5, 6, 7, 9, 10, 11, 12] rfl)
                          · refine jr_iconst C dL_edits_629 ?_
                            refine lv_goto (tgt := 634) C.1 C.2.1 dL_edits_630 (by decide) ?_
                            exact hj607_49 _ _ _ _ h (Or.inr rfl) B (lv_sub hl [1, 4, 5, 6, 7, 9, 10, 11, 12] rfl)
                        · refine jr_iconst C dL_edits_629 ?_
                          refine lv_goto (tgt := 634) C.1 C.2.1 dL_edits_630 (by decide) ?_
                          exact hj607_49 _ _ _ _ h (Or.inr rfl) B (lv_sub hl [1, 4, 5, 6, 7, 9, 10, 11, 12] rfl))
                  refine jr_icmp_ge (tgt := 259) C r_x9 r_x7 h dL_edits_230 (by decide) (fun hc230 h => ?_) (fun hc230 h => ?_)
                  · refine lv_iload C.1 C.2.1 dL_edits_233 (lv_at hl 3 rfl) ?_
                    refine jr_if_lt (tgt := 259) C r_x13 h dL_edits_235 (by decide) (fun hc235 h => ?_) (fun hc235 h => ?_)
                    · refine jr_ldc (n := -1000001) C q_315 (by decide) dL_edits_259 ?_
                      exact hj230_27 _ _ _ _ h (jkc rfl) B (lv_sub hl [0, 1, 2, 3, 4, 5, 6, 7, 8, 9, 10, 11, 12] rfl)
                    · refine lv_iload C.1 C.2.1 dL_edits_238 (lv_at hl 3 rfl) ?_
                      refine lv_iload C.1 C.2.1 dL_edits_240 (lv_at hl 4 rfl) ?_
                      refine jr_icmp_ge (tgt := 259) C r_x13 r_x10 h dL_edits_242 (by decide) (fun hc242 h => ?_) (fun hc242 h => ?_)
                      · refine lv_aload_n C.1 C.2.1 dL_edits_245 rfl (lv_at hl 9 rfl) ?_
                        refine lv_iload_n C.1 C.2.1 dL_edits_246 rfl (lv_at hl 11 rfl) ?_
                        refine lv_iload C.1 C.2.1 dL_edits_247 (lv_at hl 8 rfl) ?_
                        refine lv_iload C.1 C.2.1 dL_edits_249 (lv_at hl 5 rfl) ?_
                        refine lv_iload C.1 C.2.1 dL_edits_251 (lv_at hl 3 rfl) ?_
                        refine cl_X6_get C hl.1 B q_296 ⟨Nat.le_of_ble_eq_true rfl, Nat.le_of_ble_eq_true rfl⟩ ⟨Nat.zero_le _, Nat.zero_le _⟩ (Nat.le_of_ble_eq_true rfl) k_a1 r_a3 r_x4 r_x9 r_x13 h dL_edits_253 (fun x58 r_x58 _ _ h B => ?_)
                        refine lv_goto (tgt := 261) C.1 C.2.1 dL_edits_256 (by decide) ?_
                        exact hj230_27 _ _ _ _ h r_x58 B (lv_sub hl [0, 1, 2, 3, 4, 5, 6, 7, 8, 9, 10, 11, 12] rfl)
                      · refine jr_ldc (n := -1000001) C q_315 (by decide) dL_edits_259 ?_
                        exact hj230_27 _ _ _ _ h (jkc rfl) B (lv_sub hl [0, 1, 2, 3, 4, 5, 6, 7, 8, 9, 10, 11, 12] rfl)
                  · refine jr_ldc (n := -1000001) C q_315 (by decide) dL_edits_259 ?_
                    exact hj230_27 _ _ _ _ h (jkc rfl) B (lv_sub hl [0, 1, 2, 3, 4, 5, 6, 7, 8, 9, 10, 11, 12] rfl))
                refine jr_if_ne (tgt := 223) C (zR z_x5) h dL_edits_197 (by decide) (fun hc197 h => ?_) (fun hc197 h => ?_)
                · refine lv_aload_n C.1 C.2.1 dL_edits_200 rfl (lv_at hl 8 rfl) ?_
                  refine lv_iload_n C.1 C.2.1 dL_edits_201 rfl (lv_at hl 10 rfl) ?_
                  refine cl_X6_locker C hl.1 B q_267 ⟨Nat.le_of_ble_eq_true rfl, Nat.le_of_ble_eq_true rfl⟩ ⟨Nat.zero_le _, Nat.zero_le _⟩ (Nat.le_of_ble_eq_true rfl) k_a1 r_a3 h dL_edits_202 (fun x59 r_x59 _ _ h B => ?_)
                  refine jr_ldc (n := -1000007) C q_313 (by decide) dL_edits_205 ?_
                  refine jr_icmp_eq (tgt := 223) C r_x59 (jkc rfl) h dL_edits_207 (by decide) (fun hc207 h => ?_) (fun hc207 h => ?_)
                  · refine jr_iconst C dL_edits_223 ?_
                    exact hj197_25 _ _ _ _ h (Or.inl rfl) B (lv_sub hl [0, 1, 2, 3, 4, 5, 6, 7, 8, 9, 10, 11] rfl)
                  · refine lv_aload_n C.1 C.2.1 dL_edits_210 rfl (lv_at hl 8 rfl) ?_
                    refine lv_iload_n C.1 C.2.1 dL_edits_211 rfl (lv_at hl 10 rfl) ?_
                    refine cl_X6_locker C hl.1 B q_267 ⟨Nat.le_of_ble_eq_true rfl, Nat.le_of_ble_eq_true rfl⟩ ⟨Nat.zero_le _, Nat.zero_le _⟩ (Nat.le_of_ble_eq_true rfl) k_a1 r_a3 h dL_edits_212 (fun x60 r_x60 _ _ h B => ?_)
                    refine lv_iload_n C.1 C.2.1 dL_edits_215 rfl (lv_at hl 9 rfl) ?_
                    refine jr_icmp_eq (tgt := 223) C r_x60 r_a2 h dL_edits_216 (by decide) (fun hc216 h => ?_) (fun hc216 h => ?_)
                    · refine jr_iconst C dL_edits_223 ?_
                      exact hj197_25 _ _ _ _ h (Or.inl rfl) B (lv_sub hl [0, 1, 2, 3, 4, 5, 6, 7, 8, 9, 10, 11] rfl)
                    · refine jr_iconst C dL_edits_219 ?_
                      refine lv_goto (tgt := 224) C.1 C.2.1 dL_edits_220 (by decide) ?_
                      exact hj197_25 _ _ _ _ h (Or.inr rfl) B (lv_sub hl [0, 1, 2, 3, 4, 5, 6, 7, 8, 9, 10, 11] rfl)
                · refine jr_iconst C dL_edits_223 ?_
                  exact hj197_25 _ _ _ _ h (Or.inl rfl) B (lv_sub hl [0, 1, 2, 3, 4, 5, 6, 7, 8, 9, 10, 11] rfl))
              refine jr_icmp_lt (tgt := 188) C r_x21 (jkc rfl) h dL_edits_177 (by decide) (fun hc177 h => ?_) (fun hc177 h => ?_)
              · refine jr_iconst C dL_edits_188 ?_
                refine lv_goto (tgt := 193) C.1 C.2.1 dL_edits_189 (by decide) ?_
                exact hj177_23 _ _ _ _ h (Or.inr rfl) B (lv_sub hl [0, 1, 2, 3, 4, 5, 6, 7, 8, 9, 10] rfl)
              · refine lv_iload C.1 C.2.1 dL_edits_180 (lv_at hl 0 rfl) ?_
                refine jr_sipush C dL_edits_182 (by decide) ?_
                refine jr_icmp_le (tgt := 192) C r_x21 (jkc rfl) h dL_edits_185 (by decide) (fun hc185 h => ?_) (fun hc185 h => ?_)
                · refine jr_iconst C dL_edits_192 ?_
                  exact hj177_23 _ _ _ _ h (Or.inl rfl) B (lv_sub hl [0, 1, 2, 3, 4, 5, 6, 7, 8, 9, 10] rfl)
                · refine jr_iconst C dL_edits_188 ?_
                  refine lv_goto (tgt := 193) C.1 C.2.1 dL_edits_189 (by decide) ?_
                  exact hj177_23 _ _ _ _ h (Or.inr rfl) B (lv_sub hl [0, 1, 2, 3, 4, 5, 6, 7, 8, 9, 10] rfl))
            refine jr_if_ne (tgt := 168) C r_x18 h dL_edits_159 (by decide) (fun hc159 h => ?_) (fun hc159 h => ?_)
            · refine jr_sipush C dL_edits_162 (by decide) ?_
              refine lv_goto (tgt := 169) C.1 C.2.1 dL_edits_165 (by decide) ?_
              exact hj159_20 _ _ _ _ h (jkc rfl) B (lv_sub hl [0, 1, 2, 3, 4, 5, 6, 7, 8, 9] rfl)
            · refine jr_iconst C dL_edits_168 ?_
              exact hj159_20 _ _ _ _ h (jkc rfl) B (lv_sub hl [0, 1, 2, 3, 4, 5, 6, 7, 8, 9] rfl))
          refine jr_if_ne (tgt := 145) C r_x14 h dL_edits_136 (by decide) (fun hc136 h => ?_) (fun hc136 h => ?_)
          · refine jr_sipush C dL_edits_139 (by decide) ?_
            refine lv_goto (tgt := 147) C.1 C.2.1 dL_edits_142 (by decide) ?_
            exact hj136_16 _ _ _ _ h (jkc rfl) B (lv_sub hl [0, 1, 2, 3, 4, 5, 6, 7, 8, 9, 10] rfl)
          · refine jr_bipush C dL_edits_145 (by decide) ?_
            exact hj136_16 _ _ _ _ h (jkc rfl) B (lv_sub hl [0, 1, 2, 3, 4, 5, 6, 7, 8, 9, 10] rfl))
        refine jr_icmp_ge (tgt := 103) C r_x9 r_x7 h dL_edits_88 (by decide) (fun hc88 h => ?_) (fun hc88 h => ?_)
        · refine lv_aload_n C.1 C.2.1 dL_edits_91 rfl (lv_at hl 4 rfl) ?_
          refine lv_iload_n C.1 C.2.1 dL_edits_92 rfl (lv_at hl 6 rfl) ?_
          refine lv_iload C.1 C.2.1 dL_edits_93 (lv_at hl 3 rfl) ?_
          refine lv_iload C.1 C.2.1 dL_edits_95 (lv_at hl 0 rfl) ?_
          refine cl_X6_subvalues C hl.1 B q_283 ⟨Nat.le_of_ble_eq_true rfl, Nat.le_of_ble_eq_true rfl⟩ ⟨Nat.zero_le _, Nat.zero_le _⟩ (Nat.le_of_ble_eq_true rfl) k_a1 r_a3 r_x4 r_x9 h dL_edits_97 (fun x61 r_x61 _ _ h B => ?_)
          refine lv_goto (tgt := 104) C.1 C.2.1 dL_edits_100 (by decide) ?_
          exact hj88_11 _ _ _ _ h r_x61 B (lv_sub hl [0, 1, 2, 3, 4, 5, 6, 7, 8] rfl)
        · refine jr_iconst C dL_edits_103 ?_
          exact hj88_11 _ _ _ _ h (jkc rfl) B (lv_sub hl [0, 1, 2, 3, 4, 5, 6, 7, 8] rfl))
      refine jr_if_eq (tgt := 62) C (zR z_x5) h dL_edits_55 (by decide) (fun hc55 h => ?_) (fun hc55 h => ?_)
      · refine lv_aload_n C.1 C.2.1 dL_edits_62 rfl (lv_at hl 2 rfl) ?_
        refine lv_iload_n C.1 C.2.1 dL_edits_63 rfl (lv_at hl 4 rfl) ?_
        refine lv_iload C.1 C.2.1 dL_edits_64 (lv_at hl 1 rfl) ?_
        refine cl_X6_values C hl.1 B q_275 ⟨Nat.le_of_ble_eq_true rfl, Nat.le_of_ble_eq_true rfl⟩ ⟨Nat.zero_le _, Nat.zero_le _⟩ (Nat.le_of_ble_eq_true rfl) k_a1 r_a3 r_x4 h dL_edits_66 (fun x62 r_x62 _ _ h B => ?_)
        exact hj55_8 _ _ _ _ h r_x62 B (lv_sub hl [0, 1, 2, 3, 4, 5, 6] rfl)
      · refine jr_iconst C dL_edits_58 ?_
        refine lv_goto (tgt := 69) C.1 C.2.1 dL_edits_59 (by decide) ?_
        exact hj55_8 _ _ _ _ h (jkc rfl) B (lv_sub hl [0, 1, 2, 3, 4, 5, 6] rfl))
    refine jr_icmp_gt (tgt := 46) C r_a2 (jkc rfl) h dL_edits_27 (by decide) (fun hc27 h => ?_) (fun hc27 h => ?_)
    · refine lv_aload_n C.1 C.2.1 dL_edits_30 rfl (lv_at hl 1 rfl) ?_
      refine lv_iload_n C.1 C.2.1 dL_edits_31 rfl (lv_at hl 3 rfl) ?_
      refine cl_X6_locker C hl.1 B q_267 ⟨Nat.le_of_ble_eq_true rfl, Nat.le_of_ble_eq_true rfl⟩ ⟨Nat.zero_le _, Nat.zero_le _⟩ (Nat.le_of_ble_eq_true rfl) k_a1 r_a3 h dL_edits_32 (fun x63 r_x63 _ _ h B => ?_)
      refine jr_ldc (n := -1000001) C q_315 (by decide) dL_edits_35 ?_
      refine jr_icmp_eq (tgt := 46) C r_x63 (jkc rfl) h dL_edits_37 (by decide) (fun hc37 h => ?_) (fun hc37 h => ?_)
      · refine jr_iconst C dL_edits_46 ?_
        refine lv_goto (tgt := 51) C.1 C.2.1 dL_edits_47 (by decide) ?_
        exact hj27_6 _ _ _ _ h (Or.inr rfl) B (lv_sub hl [0, 1, 2, 3, 4, 5] rfl)
      · refine lv_iload C.1 C.2.1 dL_edits_40 (lv_at hl 0 rfl) ?_
        refine jr_iconst C dL_edits_42 ?_
        refine jr_icmp_ne (tgt := 50) C r_x4 (jkc rfl) h dL_edits_43 (by decide) (fun hc43 h => ?_) (fun hc43 h => ?_)
        · refine jr_iconst C dL_edits_46 ?_
          refine lv_goto (tgt := 51) C.1 C.2.1 dL_edits_47 (by decide) ?_
          exact hj27_6 _ _ _ _ h (Or.inr rfl) B (lv_sub hl [0, 1, 2, 3, 4, 5] rfl)
        · refine jr_iconst C dL_edits_50 ?_
          exact hj27_6 _ _ _ _ h (Or.inl rfl) B (lv_sub hl [0, 1, 2, 3, 4, 5] rfl)
    · refine jr_iconst C dL_edits_46 ?_
      refine lv_goto (tgt := 51) C.1 C.2.1 dL_edits_47 (by decide) ?_
      exact hj27_6 _ _ _ _ h (Or.inr rfl) B (lv_sub hl [0, 1, 2, 3, 4, 5] rfl))
  refine jr_if_ne (tgt := 19) C r_x1 h dL_edits_12 (by decide) (fun hc12 h => ?_) (fun hc12 h => ?_)
  · refine jr_iconst C dL_edits_15 ?_
    refine lv_goto (tgt := 20) C.1 C.2.1 dL_edits_16 (by decide) ?_
    exact hj12_3 _ _ _ _ h (jkc rfl) B (lv_sub hl [0, 1, 2, 3, 4] rfl)
  · refine jr_iconst C dL_edits_19 ?_
    exact hj12_3 _ _ _ _ h (jkc rfl) B (lv_sub hl [0, 1, 2, 3, 4] rfl)
theorem cl_L_edits {p : Program} {l : Launch} {e : Env} {R : Room} {s : State} {m : MethodId} {args : Array Value} {below : List Frame} {meth : Method} {c : Code} {H : Heap} {locs : List Loc} {cells slots : Nat} {Q : State → Prop} {cc : ByteArray} {nL : Nat} {own : String} {G : jG} {H0 : Heap} {pc idx : Nat} {ls : Array Slot} {rest : List Value} {N : Nat} {M : jM} {a1 a2 a3 a4 a5 : Int} {k : Int → jM → Prop} (C : Cx G p s args m c cc nL own) (hl : ls.size = nL) (B : Hp G M H0 H locs) (q1 : Cond.methodLink own idx yL_edits ∈ tb) (hR : (rmm 7 176).frames + 1 ≤ R.frames ∧ 8 + (18 + 11) + (rmm 7 176).locals ≤ R.locals) (hcs : cells ≤ R.cells ∧ slots ≤ R.slots) (hW : (rest.map fun v => v.category).sum ≤ 8) (k_a1 : jK a1 = 7) (r_a2 : jR a2) (r_a3 : jR a3) (r_a4 : jR a4) (r_a5 : jR a5) (h : w_L_edits N M a1 a2 a3 a4 a5 k) (hdg : decode cc pc = .ok (.invokestatic idx, 3)) (kk : ∀ (r : Int) (M' : jM), (r = 0 ∨ r = 1) → ∀ (H1 : Heap) (locs1 : List Loc), k r M' → Hp G M' H0 H1 locs1 → W p l e R s m args below meth c H1 locs1 cells slots Q (F0 m (pc + 3) ls (.int (jI r) :: rest))) : W p l e R s m args below meth c H locs cells slots Q (F0 m pc ls (.int (jI a5) :: .int (jI a4) :: .int (jI a3) :: .int (jI a2) :: .ref (jD G a1) :: rest)) :=
  jr_callZ B (jr_runS (As := [.ref (jD G a1), .int (jI a2), .int (jI a3), .int (jI a4), .int (jI a5)]) (n := 5) C hl B (m_L_edits B.2.2 k_a1 r_a2 r_a3 r_a4 r_a5 h) q1 q_472 q_473 q_0 ⟨by decide, by decide, by decide +kernel⟩ rfl ⟨rfl, rfl⟩ hR hcs rfl hW hdg) (fun r M' H1 locs1 hr hk B1 => kk r M' hr H1 locs1 hk B1)
