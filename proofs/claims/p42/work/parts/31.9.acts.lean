def w_L_acts (N : Nat) (M : jM) (a1 : Int) (a2 : Int) (a3 : Int) (k : Int → jM → Prop) : Prop := (w_L_low a2 32 (fun x1 => (w_X6_records M a1 (fun x2 => (w_L_low a3 (jW (x2 + 1)) (fun x3 => (jL (fun (x4 : Int) => (jL (fun (x6 : Int) => (w_L_low (jShr a3 18) 7 (fun x8 => (jL (fun (x9 : Int) => (w_L_low (jShr a3 4) x9 (fun x11 => (jL (jShr a3 2) (fun x12 => (jL (fun (M14 : jM) => (w_L_low (jShr x12 5) 102 (fun x15 => (jL (jW (x15 - 1)) (fun x16 => (jL (fun (x17 : Int) => (jL (fun (x19 : Int) => (w_X6_create N M14 a1 x16 (fun x21 M22 => (jL (fun (x23 : Int) => (if x21 = x23 then (if x17 = 0 then (if x19 = 0 then (if x2 = 10 then (k 1 M22) else (w_X6_locker N M22 a1 x16 (fun x25 => (if x25 = (-1000007) then (w_X6_lines N M22 a1 x16 (fun x26 => (if x26 = 0 then (k 1 M22) else (k 0 M22)))) else (k 0 M22))))) else (k 1 M22)) else (k 1 M22)) else (k 0 M22))) (fun j177_24 => (if x17 = 0 then (if x19 = 0 then (if x2 = 10 then (j177_24 (-1000004)) else (j177_24 (jW (x2 + 1)))) else (j177_24 (-1000005))) else (j177_24 (-1000002)))))))) (fun j148_20 => (if x17 = 0 then (w_X6_locker N M14 a1 x16 (fun x27 => (if x27 = (-1000001) then (j148_20 0) else (j148_20 1)))) else (j148_20 0))))) (fun j129_18 => (if x16 < 0 then (j129_18 1) else (if x16 ≤ 99 then (j129_18 0) else (j129_18 1)))))))))) (fun j106_13 => (if x1 < 3 then (j106_13 M) else (if x2 < 2 then (j106_13 M) else (jL (fun (x28 : Int) => (if x1 < 16 then (if x1 < 10 then (w_L_edits N M a1 x11 x4 0 x12 (fun x30 M31 => (k x30 M31))) else (if x1 < 12 then (w_L_edits N M a1 x11 x4 1 x12 (fun x32 M33 => (k x32 M33))) else (w_L_edits N M a1 x11 x4 2 x12 (fun x34 M35 => (k x34 M35))))) else (if x1 < 19 then (w_L_loads N M a1 x11 x4 x12 (fun x36 M37 => (k x36 M37))) else (if x1 = 19 then (w_X6_lock N M a1 x11 x4 (fun x38 M39 => (jL (fun (x40 : Int) => (if x38 = x40 then (if x38 < 0 then (k 1 M39) else (if x38 < 1 then (k 0 M39) else (w_X6_locker N M39 a1 x4 (fun x42 => (if x42 = x11 then (k 1 M39) else (k 0 M39)))))) else (k 0 M39))) (fun j365_41 => (if x11 ≤ 3 then (if x6 = 0 then (j365_41 (-1000001)) else (if x28 = 0 then (j365_41 x38) else (j365_41 (-1000006)))) else (j365_41 (-1000001))))))) else (if x1 = 20 then (jL (fun (x43 : Int) => (w_X6_unlock N M a1 x11 x4 (fun x45 M46 => (if x11 ≤ 3 then (if x6 = 0 then (if x45 = (-1000001) then (if x6 = 0 then (k 1 M46) else (if x28 = 0 then (if x11 ≤ 3 then (w_X6_locker N M46 a1 x4 (fun x47 => (if x47 = (-1000007) then (k 1 M46) else (k 0 M46)))) else (k 1 M46)) else (k 1 M46))) else (k 0 M46)) else (if x28 = 0 then (if x43 = 0 then (if x45 < 0 then (k 0 M46) else (if x45 < x2 then (if x6 = 0 then (k 1 M46) else (if x28 = 0 then (if x11 ≤ 3 then (w_X6_locker N M46 a1 x4 (fun x48 => (if x48 = (-1000007) then (k 1 M46) else (k 0 M46)))) else (k 1 M46)) else (k 1 M46))) else (k 0 M46))) else (if x45 = (-1000005) then (if x6 = 0 then (k 1 M46) else (if x28 = 0 then (if x11 ≤ 3 then (w_X6_locker N M46 a1 x4 (fun x49 => (if x49 = (-1000007) then (k 1 M46) else (k 0 M46)))) else (k 1 M46)) else (k 1 M46))) else (k 0 M46))) else (if x45 = (-1000006) then (if x6 = 0 then (k 1 M46) else (if x28 = 0 then (if x11 ≤ 3 then (w_X6_locker N M46 a1 x4 (fun x50 => (if x50 = (-1000007) then (k 1 M46) else (k 0 M46)))) else (k 1 M46)) else (k 1 M46))) else (k 0 M46)))) else (if x45 = (-1000001) then (if x6 = 0 then (k 1 M46) else (if x28 = 0 then (if x11 ≤ 3 then (w_X6_locker N M46 a1 x4 (fun x51 => (if x51 = (-1000007) then (k 1 M46) else (k 0 M46)))) else (k 1 M46)) else (k 1 M46))) else (k 0 M46)))))) (fun j429_44 => (if x6 = 0 then (j429_44 0) else (w_X6_locker N M a1 x4 (fun x52 => (if x52 = (-1000007) then (j429_44 1) else (j429_44 0))))))) else (if x1 = 21 then (w_L_low x12 3 (fun x53 => (if x53 ≤ 0 then (w_X6_delete N M a1 x11 x4 (fun x54 M55 => (if x11 ≤ 3 then (if x6 = 0 then (if x54 = (-1000001) then (k 1 M55) else (k 0 M55)) else (if x28 = 0 then (if x54 = (jW (x2 - 1)) then (k 1 M55) else (k 0 M55)) else (if x54 = (-1000006) then (k 1 M55) else (k 0 M55)))) else (if x54 = (-1000001) then (k 1 M55) else (k 0 M55))))) else (k 1 M)))) else (if x1 = 22 then (w_L_low (jShr x12 3) 7 (fun x56 => (jL (jW (x56 - 1)) (fun x57 => (jL (fun (x58 : Int) => (w_X6_removeLine N M a1 x11 x4 x57 (fun x60 M61 => (jL (fun (x62 : Int) => (if x60 = x62 then (if x60 < 0 then (k 1 M61) else (if x60 < 1 then (k 0 M61) else (if x60 ≤ 4 then (w_X6_lines N M61 a1 x4 (fun x64 => (if x64 = (jW (x58 - 1)) then (k 1 M61) else (k 0 M61)))) else (k 0 M61)))) else (k 0 M61))) (fun j669_63 => (if x11 ≤ 3 then (if x6 = 0 then (j669_63 (-1000001)) else (if x57 < 0 then (j669_63 (-1000001)) else (if x57 < x58 then (if x28 = 0 then (j669_63 x60) else (j669_63 (-1000006))) else (j669_63 (-1000001))))) else (j669_63 (-1000001)))))))) (fun j637_59 => (if x6 = 0 then (j637_59 0) else (w_X6_lines N M a1 x4 (fun x65 => (j637_59 x65)))))))))) else (if x1 = 23 then (w_L_low x12 5 (fun x66 => (w_L_low (jShr x12 3) 2 (fun x67 => (jL (fun (x68 : Int) => (w_X6_associate N M a1 x66 x68 (fun x70 M71 => (if x66 = 4 then (if x70 = (-1000001) then (k 1 M71) else (k 0 M71)) else (w_X6_associated M71 a1 x66 (fun x72 => (jL (fun (x73 : Int) => (if x72 = x73 then (w_X6_associated M71 a1 0 (fun x75 => (w_X6_associated M71 a1 1 (fun x76 => (w_X6_associated M71 a1 2 (fun x77 => (w_X6_associated M71 a1 3 (fun x78 => (if x70 = (jW ((jW ((jW (x75 + x76)) + x77)) + x78)) then (k 1 M71) else (k 0 M71)))))))))) else (k 0 M71))) (fun j814_74 => (if x68 = 0 then (j814_74 0) else (j814_74 1)))))))))) (fun j765_69 => (if x67 = 0 then (j765_69 1) else (j765_69 0)))))))) else (if x1 < 26 then (w_L_low x12 7 (fun x79 => (w_L_low (jShr x12 3) 6 (fun x80 => (w_L_low (jShr x12 15) 6 (fun x81 => (jL (fun (x82 : Int) => (w_L_low (jShr x12 6) x82 (fun x84 => (w_L_low (jShr x12 16) 6 (fun x85 => (jL (fun (x86 : Int) => (w_L_low (jShr x12 9) x86 (fun x88 => (jL (fun (x89 : Int) => (jL (fun (x91 : Int) => (w_X6_define N M a1 x79 x80 x84 x88 (fun x93 M94 => (jL (fun (x95 : Int) => (if x93 = x95 then (if x89 = 0 then (if x80 = 5 then (k 1 M94) else (w_X6_column M94 a1 x79 0 (fun x97 => (if x97 = x80 then (w_X6_column M94 a1 x79 1 (fun x98 => (if x98 = x84 then (w_X6_column M94 a1 x79 2 (fun x99 => (if x99 = x88 then (k 1 M94) else (k 0 M94)))) else (k 0 M94)))) else (k 0 M94))))) else (k 1 M94)) else (k 0 M94))) (fun j995_96 => (if x89 = 0 then (if x80 = 5 then (j995_96 (-1000002)) else (j995_96 x91)) else (j995_96 (-1000001)))))))) (fun j965_92 => (if x79 = 6 then (j965_92 0) else (w_X6_column M a1 x79 0 (fun x100 => (j965_92 x100))))))) (fun j939_90 => (if x79 = 6 then (j939_90 1) else (if x84 = 4 then (j939_90 1) else (if x88 = 4 then (j939_90 1) else (j939_90 0))))))))) (fun j922_87 => (if x85 = 0 then (j922_87 5) else (j922_87 4))))))))) (fun j896_83 => (if x81 = 0 then (j896_83 5) else (j896_83 4)))))))))) else (w_L_low x12 9 (fun x101 => (if x1 < 29 then (w_L_low (jShr x12 3) 7 (fun x102 => (w_L_low (jShr x12 6) 4 (fun x103 => (w_L_low (jShr x12 17) 5 (fun x104 => (jL (fun (x105 : Int) => (w_L_low (jShr x12 8) x105 (fun x107 => (w_L_low (jShr x12 17) 5 (fun x108 => (jL (fun (x109 : Int) => (jL (jW (x107 - x109)) (fun x111 => (jL (fun (x112 : Int) => (w_L_low (jShr x12 12) 2 (fun x114 => (jL (fun (x115 : Int) => (w_X6_select N M a1 x102 x103 x111 x115 x101 (fun x117 M118 => (jL (fun (x119 : Int) => (if x117 = x119 then (if x117 < 0 then (k 1 M118) else (if x117 ≤ x2 then (w_X6_listSize N M118 a1 x101 (fun x121 => (if x121 = x117 then (k 1 M118) else (k 0 M118)))) else (k 0 M118))) else (k 0 M118))) (fun j1214_120 => (if x102 = 6 then (j1214_120 (-1000001)) else (if x101 = 8 then (j1214_120 (-1000001)) else (if x112 = 0 then (j1214_120 x117) else (j1214_120 (-1000002)))))))))) (fun j1193_116 => (if x114 = 0 then (j1193_116 1) else (j1193_116 0))))))) (fun j1154_113 => (if x103 = 3 then (j1154_113 1) else (if x111 < (-1000000) then (j1154_113 1) else (if x111 ≤ 1000000 then (j1154_113 0) else (j1154_113 1))))))))) (fun j1139_110 => (if x108 = 0 then (j1139_110 1000001) else (j1139_110 5))))))))) (fun j1118_106 => (if x104 = 0 then (j1118_106 2000003) else (j1118_106 11)))))))))) else (if x1 < 31 then (w_L_low (jShr x12 4) 4 (fun x122 => (w_L_low (jShr x12 15) 6 (fun x123 => (jL (fun (x124 : Int) => (w_L_low (jShr x12 6) x124 (fun x126 => (w_L_low (jShr x12 16) 6 (fun x127 => (jL (fun (x128 : Int) => (w_L_low (jShr x12 9) x128 (fun x130 => (jL (fun (x131 : Int) => (jL (fun (x133 : Int) => (jL (fun (x135 : Int) => (w_X6_combine N M a1 x122 x126 x130 x101 (fun x137 M138 => (if x131 = 0 then (if x122 = 3 then (if x137 = (-1000002) then (k 1 M138) else (k 0 M138)) else (w_X6_listSize N M138 a1 x101 (fun x139 => (if x139 = x137 then (if x122 = 0 then (if x137 ≤ x133 then (if x137 ≤ x135 then (k 1 M138) else (k 0 M138)) else (k 0 M138)) else (if x122 = 1 then (if x137 < x133 then (k 0 M138) else (if x137 < x135 then (k 0 M138) else (if x137 ≤ (jW (x133 + x135)) then (k 1 M138) else (k 0 M138)))) else (if x137 ≤ x133 then (if x137 < (jW (x133 - x135)) then (k 0 M138) else (k 1 M138)) else (k 0 M138)))) else (k 0 M138))))) else (if x137 = (-1000001) then (k 1 M138) else (k 0 M138)))))) (fun j1391_136 => (if x131 = 0 then (w_X6_listSize N M a1 x130 (fun x140 => (j1391_136 x140))) else (j1391_136 0))))) (fun j1374_134 => (if x131 = 0 then (w_X6_listSize N M a1 x126 (fun x141 => (j1374_134 x141))) else (j1374_134 0))))) (fun j1348_132 => (if x101 = 8 then (j1348_132 1) else (if x126 = 8 then (j1348_132 1) else (if x130 = 8 then (j1348_132 1) else (j1348_132 0))))))))) (fun j1329_129 => (if x127 = 0 then (j1329_129 9) else (j1329_129 8))))))))) (fun j1301_125 => (if x123 = 0 then (j1301_125 9) else (j1301_125 8)))))))) else (jL (fun (x142 : Int) => (w_X6_clearList N M a1 x101 (fun x144 M145 => (if x144 = x142 then (if x101 = 8 then (k 1 M145) else (w_X6_listSize N M145 a1 x101 (fun x146 => (if x146 = 0 then (k 1 M145) else (k 0 M145))))) else (k 0 M145))))) (fun j1554_143 => (if x101 = 8 then (j1554_143 (-1000001)) else (w_X6_listSize N M a1 x101 (fun x147 => (j1554_143 x147))))))))))))))))))) (fun j259_29 => (if x6 = 0 then (j259_29 0) else (w_X6_locker N M a1 x4 (fun x148 => (if x148 = (-1000007) then (j259_29 0) else (w_X6_locker N M a1 x4 (fun x149 => (if x149 = x11 then (j259_29 0) else (j259_29 1))))))))))))))))))) (fun j87_10 => (if x8 = 0 then (j87_10 5) else (j87_10 2))))))) (fun j54_7 => (if x4 < 0 then (j54_7 0) else (w_X6_locker N M a1 x4 (fun x150 => (if x150 = (-1000001) then (j54_7 0) else (j54_7 1)))))))) (fun j27_5 => (if x3 < x2 then (w_X6_recordAt M a1 x3 (fun x151 => (j27_5 x151))) else (w_L_low (jShr a3 9) 103 (fun x152 => (j27_5 (jW (x152 - 1))))))))))))))
set_option maxHeartbeats 4000000 in
set_option maxRecDepth 100000 in
theorem m_L_acts {l : Launch} {G : jG} {N : Nat} {M : jM} {a1 a2 a3 : Int} {k : Int → jM → Prop} (o_M : jOK M) (k_a1 : jK a1 = 7) (r_a2 : jR a2) (r_a3 : jR a3) (h : w_L_acts N M a1 a2 a3 k) : Met l yL_acts (wsG yL_acts cL_acts 18 (some .boolean)) (rmm 9 232) (jPc G M [.ref (jD G a1), .int (jI a2), .int (jI a3)]) (qZ G k) 0 0 (gA G) := by
  refine jm_start RL rfl (by decide) (Nat.le_of_ble_eq_true rfl) o_M ?_
  intro p e s m args below meth c ls C hr hlocks hl B
  have hl : lv_has ls 18 [(0, .ref (jD G a1)), (1, .int (jI a2)), (2, .int (jI a3))] := hl
  unfold w_L_acts at h
  refine lv_iload_n C.1 C.2.1 dL_acts_0 rfl (lv_at hl 1 rfl) ?_
  refine jr_bipush C dL_acts_1 (by decide) ?_
  refine cl_L_low C hl.1 B q_220 ⟨Nat.le_of_ble_eq_true rfl, Nat.le_of_ble_eq_true rfl⟩ ⟨Nat.zero_le _, Nat.zero_le _⟩ (Nat.le_of_ble_eq_true rfl) r_a2 (jkc rfl) h dL_acts_3 (fun x1 r_x1 _ _ h B => ?_)
  refine lv_istore_n (lv' := [(3, .int (jI x1)), (0, .ref (jD G a1)), (1, .int (jI a2)), (2, .int (jI a3))]) C.1 C.2.1 dL_acts_6 rfl hl (by decide) rfl (fun ls hl => ?_)
  refine lv_aload_n C.1 C.2.1 dL_acts_7 rfl (lv_at hl 1 rfl) ?_
  refine cl_X6_records C hl.1 B q_259 ⟨Nat.le_of_ble_eq_true rfl, Nat.le_of_ble_eq_true rfl⟩ ⟨Nat.zero_le _, Nat.zero_le _⟩ (Nat.le_of_ble_eq_true rfl) k_a1 h dL_acts_8 (fun x2 r_x2 _ _ h B => ?_)
  refine lv_istore (lv' := [(4, .int (jI x2)), (3, .int (jI x1)), (0, .ref (jD G a1)), (1, .int (jI a2)), (2, .int (jI a3))]) C.1 C.2.1 dL_acts_11 hl (by decide) rfl (fun ls hl => ?_)
  refine lv_iload_n C.1 C.2.1 dL_acts_13 rfl (lv_at hl 4 rfl) ?_
  refine lv_iload C.1 C.2.1 dL_acts_14 (lv_at hl 0 rfl) ?_
  refine jr_iconst C dL_acts_16 ?_
  refine jr_iadd C dL_acts_17 ?_
  refine cl_L_low C hl.1 B q_220 ⟨Nat.le_of_ble_eq_true rfl, Nat.le_of_ble_eq_true rfl⟩ ⟨Nat.zero_le _, Nat.zero_le _⟩ (Nat.le_of_ble_eq_true rfl) r_a3 (jW_R _) h dL_acts_18 (fun x3 r_x3 _ _ h B => ?_)
  refine lv_istore (lv' := [(5, .int (jI x3)), (4, .int (jI x2)), (3, .int (jI x1)), (0, .ref (jD G a1)), (1, .int (jI a2)), (2, .int (jI a3))]) C.1 C.2.1 dL_acts_21 hl (by decide) rfl (fun ls hl => ?_)
  refine lv_iload C.1 C.2.1 dL_acts_23 (lv_at hl 0 rfl) ?_
  refine lv_iload C.1 C.2.1 dL_acts_25 (lv_at hl 1 rfl) ?_
  obtain ⟨j27_5, hj27_5, h⟩ := jx_join (P := fun j27_5 : Int → Prop => ∀ (x4 : Int) (H : Heap) (locs : List Loc) (ls : Array Slot), j27_5 x4 → jR x4 → Hp G M s.heap H locs → lv_has ls 18 [(4, .int (jI x2)), (3, .int (jI x1)), (0, .ref (jD G a1)), (2, .int (jI a3))] → W p l e (rmm 9 232) s m args below meth c H locs 0 0 (MQ below (qZ G k) args s 0 0 (gA G)) (F0 m 50 ls [.int (jI x4)])) h (by
    intro x4 H locs ls h r_x4 B hl
    refine lv_istore (lv' := [(6, .int (jI x4)), (4, .int (jI x2)), (3, .int (jI x1)), (0, .ref (jD G a1)), (2, .int (jI a3))]) C.1 C.2.1 dL_acts_50 hl (by decide) rfl (fun ls hl => ?_)
    refine lv_iload C.1 C.2.1 dL_acts_52 (lv_at hl 0 rfl) ?_
    obtain ⟨j54_7, hj54_7, h⟩ := jx_join (P := fun j54_7 : Int → Prop => ∀ (x6 : Int) (H : Heap) (locs : List Loc) (ls : Array Slot), j54_7 x6 → (x6 = 0 ∨ x6 = 1) → Hp G M s.heap H locs → lv_has ls 18 [(6, .int (jI x4)), (4, .int (jI x2)), (3, .int (jI x1)), (0, .ref (jD G a1)), (2, .int (jI a3))] → W p l e (rmm 9 232) s m args below meth c H locs 0 0 (MQ below (qZ G k) args s 0 0 (gA G)) (F0 m 73 ls [.int (jI x6)])) h (by
      intro x6 H locs ls h z_x6 B hl
      refine lv_istore (lv' := [(7, .int (jI x6)), (6, .int (jI x4)), (4, .int (jI x2)), (3, .int (jI x1)), (0, .ref (jD G a1)), (2, .int (jI a3))]) C.1 C.2.1 dL_acts_73 hl (by decide) rfl (fun ls hl => ?_)
      refine lv_iload_n C.1 C.2.1 dL_acts_75 rfl (lv_at hl 5 rfl) ?_
      refine jr_iconst C dL_acts_76 ?_
      refine jr_ishr C dL_acts_77 ?_
      refine lv_iload_n C.1 C.2.1 dL_acts_78 rfl (lv_at hl 5 rfl) ?_
      refine jr_bipush C dL_acts_79 (by decide) ?_
      refine jr_ishr C dL_acts_81 ?_
      refine jr_bipush C dL_acts_82 (by decide) ?_
      refine cl_L_low C hl.1 B q_220 ⟨Nat.le_of_ble_eq_true rfl, Nat.le_of_ble_eq_true rfl⟩ ⟨Nat.zero_le _, Nat.zero_le _⟩ (Nat.le_of_ble_eq_true rfl) (jShr_R _ _) (jkc rfl) h dL_acts_84 (fun x8 r_x8 _ _ h B => ?_)
      obtain ⟨j87_10, hj87_10, h⟩ := jx_join (P := fun j87_10 : Int → Prop => ∀ (x9 : Int) (H : Heap) (locs : List Loc) (ls : Array Slot), j87_10 x9 → jR x9 → Hp G M s.heap H locs → lv_has ls 18 [(7, .int (jI x6)), (6, .int (jI x4)), (4, .int (jI x2)), (3, .int (jI x1)), (0, .ref (jD G a1)), (2, .int (jI a3))] → W p l e (rmm 9 232) s m args below meth c H locs 0 0 (MQ below (qZ G k) args s 0 0 (gA G)) (F0 m 95 ls [.int (jI x9), .int (jI (jShr a3 4))])) h (by
        intro x9 H locs ls h r_x9 B hl
        refine cl_L_low C hl.1 B q_220 ⟨Nat.le_of_ble_eq_true rfl, Nat.le_of_ble_eq_true rfl⟩ ⟨Nat.zero_le _, Nat.zero_le _⟩ (Nat.le_of_ble_eq_true rfl) (jShr_R _ _) r_x9 h dL_acts_95 (fun x11 r_x11 _ _ h B => ?_)
        refine lv_istore (lv' := [(8, .int (jI x11)), (7, .int (jI x6)), (6, .int (jI x4)), (4, .int (jI x2)), (3, .int (jI x1)), (0, .ref (jD G a1)), (2, .int (jI a3))]) C.1 C.2.1 dL_acts_98 hl (by decide) rfl (fun ls hl => ?_)
        refine lv_iload_n C.1 C.2.1 dL_acts_100 rfl (lv_at hl 6 rfl) ?_
        refine jr_iconst C dL_acts_101 ?_
        refine jr_ishr C dL_acts_102 ?_
        refine jr_nm h (jShr_R _ _) (fun x12 h r_x12 => ?_)
        refine lv_istore_n (lv' := [(2, .int (jI x12)), (8, .int (jI x11)), (7, .int (jI x6)), (6, .int (jI x4)), (4, .int (jI x2)), (3, .int (jI x1)), (0, .ref (jD G a1))]) C.1 C.2.1 dL_acts_103 rfl hl (by decide) rfl (fun ls hl => ?_)
        refine lv_iload_n C.1 C.2.1 dL_acts_104 rfl (lv_at hl 5 rfl) ?_
        refine jr_iconst C dL_acts_105 ?_
        obtain ⟨j106_13, hj106_13, h⟩ := jx_join (P := fun j106_13 : jM → Prop => ∀ (M14 : jM) (H : Heap) (locs : List Loc) (ls : Array Slot), j106_13 M14 → Hp G M14 s.heap H locs → lv_has ls 18 [(2, .int (jI x12)), (4, .int (jI x2)), (0, .ref (jD G a1))] → W p l e (rmm 9 232) s m args below meth c H locs 0 0 (MQ below (qZ G k) args s 0 0 (gA G)) (F0 m 115 ls [])) h (by
          intro M14 H locs ls h  B hl
          have o_M14 := B.2.2
          refine lv_iload_n C.1 C.2.1 dL_acts_115 rfl (lv_at hl 0 rfl) ?_
          refine jr_iconst C dL_acts_116 ?_
          refine jr_ishr C dL_acts_117 ?_
          refine jr_bipush C dL_acts_118 (by decide) ?_
          refine cl_L_low C hl.1 B q_220 ⟨Nat.le_of_ble_eq_true rfl, Nat.le_of_ble_eq_true rfl⟩ ⟨Nat.zero_le _, Nat.zero_le _⟩ (Nat.le_of_ble_eq_true rfl) (jShr_R _ _) (jkc rfl) h dL_acts_120 (fun x15 r_x15 _ _ h B => ?_)
          refine jr_iconst C dL_acts_123 ?_
          refine jr_isub C dL_acts_124 ?_
          refine jr_nm h (jW_R _) (fun x16 h r_x16 => ?_)
          refine lv_istore (lv' := [(9, .int (jI x16)), (2, .int (jI x12)), (4, .int (jI x2)), (0, .ref (jD G a1))]) C.1 C.2.1 dL_acts_125 hl (by decide) rfl (fun ls hl => ?_)
          refine lv_iload C.1 C.2.1 dL_acts_127 (lv_at hl 0 rfl) ?_
          obtain ⟨j129_18, hj129_18, h⟩ := jx_join (P := fun j129_18 : Int → Prop => ∀ (x17 : Int) (H : Heap) (locs : List Loc) (ls : Array Slot), j129_18 x17 → (x17 = 0 ∨ x17 = 1) → Hp G M14 s.heap H locs → lv_has ls 18 [(9, .int (jI x16)), (4, .int (jI x2)), (0, .ref (jD G a1))] → W p l e (rmm 9 232) s m args below meth c H locs 0 0 (MQ below (qZ G k) args s 0 0 (gA G)) (F0 m 144 ls [.int (jI x17)])) h (by
            intro x17 H locs ls h z_x17 B hl
            refine lv_istore (lv' := [(10, .int (jI x17)), (9, .int (jI x16)), (4, .int (jI x2)), (0, .ref (jD G a1))]) C.1 C.2.1 dL_acts_144 hl (by decide) rfl (fun ls hl => ?_)
            refine lv_iload C.1 C.2.1 dL_acts_146 (lv_at hl 0 rfl) ?_
            obtain ⟨j148_20, hj148_20, h⟩ := jx_join (P := fun j148_20 : Int → Prop => ∀ (x19 : Int) (H : Heap) (locs : List Loc) (ls : Array Slot), j148_20 x19 → (x19 = 0 ∨ x19 = 1) → Hp G M14 s.heap H locs → lv_has ls 18 [(10, .int (jI x17)), (9, .int (jI x16)), (4, .int (jI x2)), (0, .ref (jD G a1))] → W p l e (rmm 9 232) s m args below meth c H locs 0 0 (MQ below (qZ G k) args s 0 0 (gA G)) (F0 m 167 ls [.int (jI x19)])) h (by
              intro x19 H locs ls h z_x19 B hl
              refine lv_istore (lv' := [(11, .int (jI x19)), (10, .int (jI x17)), (9, .int (jI x16)), (4, .int (jI x2)), (0, .ref (jD G a1))]) C.1 C.2.1 dL_acts_167 hl (by decide) rfl (fun ls hl => ?_)
              refine lv_aload_n C.1 C.2.1 dL_acts_169 rfl (lv_at hl 4 rfl) ?_
              refine lv_iload C.1 C.2.1 dL_acts_170 (lv_at hl 2 rfl) ?_
              refine cl_X6_create C hl.1 B q_443 ⟨Nat.le_of_ble_eq_true rfl, Nat.le_of_ble_eq_true rfl⟩ ⟨Nat.zero_le _, Nat.zero_le _⟩ (Nat.le_of_ble_eq_true rfl) k_a1 r_x16 h dL_acts_172 (fun x21 M22 r_x21 _ _ h B => ?_)
              have o_M22 := B.2.2
              refine lv_iload C.1 C.2.1 dL_acts_175 (lv_at hl 1 rfl) ?_
              obtain ⟨j177_24, hj177_24, h⟩ := jx_join (P := fun j177_24 : Int → Prop => ∀ (x23 : Int) (H : Heap) (locs : List Loc) (ls : Array Slot), j177_24 x23 → jR x23 → Hp G M22 s.heap H locs → lv_has ls 18 [(11, .int (jI x19)), (10, .int (jI x17)), (9, .int (jI x16)), (4, .int (jI x2)), (0, .ref (jD G a1))] → W p l e (rmm 9 232) s m args below meth c H locs 0 0 (MQ below (qZ G k) args s 0 0 (gA G)) (F0 m 211 ls [.int (jI x23), .int (jI x21)])) h (by
                intro x23 H locs ls h r_x23 B hl
                refine jr_icmp_ne (tgt := 255) C r_x21 r_x23 h dL_acts_211 (by decide) (fun hc211 h => ?_) (fun hc211 h => ?_)
                · refine lv_iload C.1 C.2.1 dL_acts_214 (lv_at hl 1 rfl) ?_
                  refine jr_if_ne (tgt := 251) C (zR z_x17) h dL_acts_216 (by decide) (fun hc216 h => ?_) (fun hc216 h => ?_)
                  · refine lv_iload C.1 C.2.1 dL_acts_219 (lv_at hl 0 rfl) ?_
                    refine jr_if_ne (tgt := 251) C (zR z_x19) h dL_acts_221 (by decide) (fun hc221 h => ?_) (fun hc221 h => ?_)
                    · refine lv_iload C.1 C.2.1 dL_acts_224 (lv_at hl 3 rfl) ?_
                      refine jr_bipush C dL_acts_226 (by decide) ?_
                      refine jr_icmp_eq (tgt := 251) C r_x2 (jkc rfl) h dL_acts_228 (by decide) (fun hc228 h => ?_) (fun hc228 h => ?_)
                      · refine jr_iconst C dL_acts_251 ?_
                        refine lv_goto (tgt := 256) C.1 C.2.1 dL_acts_252 (by decide) ?_
                        exact jr_zret C B hr hlocks (Or.inr rfl) h dL_acts_256
                      · refine lv_aload_n C.1 C.2.1 dL_acts_231 rfl (lv_at hl 4 rfl) ?_
                        refine lv_iload C.1 C.2.1 dL_acts_232 (lv_at hl 2 rfl) ?_
                        refine cl_X6_locker C hl.1 B q_267 ⟨Nat.le_of_ble_eq_true rfl, Nat.le_of_ble_eq_true rfl⟩ ⟨Nat.zero_le _, Nat.zero_le _⟩ (Nat.le_of_ble_eq_true rfl) k_a1 r_x16 h dL_acts_234 (fun x25 r_x25 _ _ h B => ?_)
                        refine jr_ldc (n := -1000007) C q_313 (by decide) dL_acts_237 ?_
                        refine jr_icmp_ne (tgt := 255) C r_x25 (jkc rfl) h dL_acts_239 (by decide) (fun hc239 h => ?_) (fun hc239 h => ?_)
                        · refine lv_aload_n C.1 C.2.1 dL_acts_242 rfl (lv_at hl 4 rfl) ?_
                          refine lv_iload C.1 C.2.1 dL_acts_243 (lv_at hl 2 rfl) ?_
                          refine cl_X6_lines C hl.1 B q_323 ⟨Nat.le_of_ble_eq_true rfl, Nat.le_of_ble_eq_true rfl⟩ ⟨Nat.zero_le _, Nat.zero_le _⟩ (Nat.le_of_ble_eq_true rfl) k_a1 r_x16 h dL_acts_245 (fun x26 r_x26 _ _ h B => ?_)
                          refine jr_if_ne (tgt := 255) C r_x26 h dL_acts_248 (by decide) (fun hc248 h => ?_) (fun hc248 h => ?_)
                          · refine jr_iconst C dL_acts_251 ?_
                            refine lv_goto (tgt := 256) C.1 C.2.1 dL_acts_252 (by decide) ?_
                            exact jr_zret C B hr hlocks (Or.inr rfl) h dL_acts_256
                          · refine jr_iconst C dL_acts_255 ?_
                            exact jr_zret C B hr hlocks (Or.inl rfl) h dL_acts_256
                        · refine jr_iconst C dL_acts_255 ?_
                          exact jr_zret C B hr hlocks (Or.inl rfl) h dL_acts_256
                    · refine jr_iconst C dL_acts_251 ?_
                      refine lv_goto (tgt := 256) C.1 C.2.1 dL_acts_252 (by decide) ?_
                      exact jr_zret C B hr hlocks (Or.inr rfl) h dL_acts_256
                  · refine jr_iconst C dL_acts_251 ?_
                    refine lv_goto (tgt := 256) C.1 C.2.1 dL_acts_252 (by decide) ?_
                    exact jr_zret C B hr hlocks (Or.inr rfl) h dL_acts_256
                · refine jr_iconst C dL_acts_255 ?_
                  exact jr_zret C B hr hlocks (Or.inl rfl) h dL_acts_256)
              refine jr_if_eq (tgt := 185) C (zR z_x17) h dL_acts_177 (by decide) (fun hc177 h => ?_) (fun hc177 h => ?_)
              · refine lv_iload C.1 C.2.1 dL_acts_185 (lv_at hl 0 rfl) ?_
                refine jr_if_eq (tgt := 195) C (zR z_x19) h dL_acts_187 (by decide) (fun hc187 h => ?_) (fun hc187 h => ?_)
                · refine lv_iload C.1 C.2.1 dL_acts_195 (lv_at hl 3 rfl) ?_
                  refine jr_bipush C dL_acts_197 (by decide) ?_
                  refine jr_icmp_ne (tgt := 207) C r_x2 (jkc rfl) h dL_acts_199 (by decide) (fun hc199 h => ?_) (fun hc199 h => ?_)
                  · refine jr_ldc (n := -1000004) C q_470 (by decide) dL_acts_202 ?_
                    refine lv_goto (tgt := 211) C.1 C.2.1 dL_acts_204 (by decide) ?_
                    exact hj177_24 _ _ _ _ h (jkc rfl) B (lv_sub hl [0, 1, 2, 3, 4] rfl)
                  · refine lv_iload C.1 C.2.1 dL_acts_207 (lv_at hl 3 rfl) ?_
                    refine jr_iconst C dL_acts_209 ?_
                    refine jr_iadd C dL_acts_210 ?_
                    exact hj177_24 _ _ _ _ h (jW_R _) B (lv_sub hl [0, 1, 2, 3, 4] rfl)
                · refine jr_ldc (n := -1000005) C q_469 (by decide) dL_acts_190 ?_
                  refine lv_goto (tgt := 211) C.1 C.2.1 dL_acts_192 (by decide) ?_
                  exact hj177_24 _ _ _ _ h (jkc rfl) B (lv_sub hl [0, 1, 2, 3, 4] rfl)
              · refine jr_ldc (n := -1000002) C q_314 (by decide) dL_acts_180 ?_
                refine lv_goto (tgt := 211) C.1 C.2.1 dL_acts_182 (by decide) ?_
                exact hj177_24 _ _ _ _ h (jkc rfl) B (lv_sub hl [0, 1, 2, 3, 4] rfl))
            refine jr_if_ne (tgt := 166) C (zR z_x17) h dL_acts_148 (by decide) (fun hc148 h => ?_) (fun hc148 h => ?_)
            · refine lv_aload_n C.1 C.2.1 dL_acts_151 rfl (lv_at hl 3 rfl) ?_
              refine lv_iload C.1 C.2.1 dL_acts_152 (lv_at hl 1 rfl) ?_
              refine cl_X6_locker C hl.1 B q_267 ⟨Nat.le_of_ble_eq_true rfl, Nat.le_of_ble_eq_true rfl⟩ ⟨Nat.zero_le _, Nat.zero_le _⟩ (Nat.le_of_ble_eq_true rfl) k_a1 r_x16 h dL_acts_154 (fun x27 r_x27 _ _ h B => ?_)
              refine jr_ldc (n := -1000001) C q_315 (by decide) dL_acts_157 ?_
              refine jr_icmp_eq (tgt := 166) C r_x27 (jkc rfl) h dL_acts_159 (by decide) (fun hc159 h => ?_) (fun hc159 h => ?_)
              · refine jr_iconst C dL_acts_166 ?_
                exact hj148_20 _ _ _ _ h (Or.inl rfl) B (lv_sub hl [0, 1, 2, 3] rfl)
              · refine jr_iconst C dL_acts_162 ?_
                refine lv_goto (tgt := 167) C.1 C.2.1 dL_acts_163 (by decide) ?_
                exact hj148_20 _ _ _ _ h (Or.inr rfl) B (lv_sub hl [0, 1, 2, 3] rfl)
            · refine jr_iconst C dL_acts_166 ?_
              exact hj148_20 _ _ _ _ h (Or.inl rfl) B (lv_sub hl [0, 1, 2, 3] rfl))
          refine jr_if_lt (tgt := 139) C r_x16 h dL_acts_129 (by decide) (fun hc129 h => ?_) (fun hc129 h => ?_)
          · refine jr_iconst C dL_acts_139 ?_
            refine lv_goto (tgt := 144) C.1 C.2.1 dL_acts_140 (by decide) ?_
            exact hj129_18 _ _ _ _ h (Or.inr rfl) B (lv_sub hl [0, 2, 3] rfl)
          · refine lv_iload C.1 C.2.1 dL_acts_132 (lv_at hl 0 rfl) ?_
            refine jr_bipush C dL_acts_134 (by decide) ?_
            refine jr_icmp_le (tgt := 143) C r_x16 (jkc rfl) h dL_acts_136 (by decide) (fun hc136 h => ?_) (fun hc136 h => ?_)
            · refine jr_iconst C dL_acts_143 ?_
              exact hj129_18 _ _ _ _ h (Or.inl rfl) B (lv_sub hl [0, 2, 3] rfl)
            · refine jr_iconst C dL_acts_139 ?_
              refine lv_goto (tgt := 144) C.1 C.2.1 dL_acts_140 (by decide) ?_
              exact hj129_18 _ _ _ _ h (Or.inr rfl) B (lv_sub hl [0, 2, 3] rfl))
        refine jr_icmp_lt (tgt := 115) C r_x1 (jkc rfl) h dL_acts_106 (by decide) (fun hc106 h => ?_) (fun hc106 h => ?_)
        · exact hj106_13 _ _ _ _ h  B (lv_sub hl [0, 4, 6] rfl)
        · refine lv_iload C.1 C.2.1 dL_acts_109 (lv_at hl 4 rfl) ?_
          refine jr_iconst C dL_acts_111 ?_
          refine jr_icmp_ge (tgt := 257) C r_x2 (jkc rfl) h dL_acts_112 (by decide) (fun hc112 h => ?_) (fun hc112 h => ?_)
          · exact hj106_13 _ _ _ _ h  B (lv_sub hl [0, 4, 6] rfl)
          · refine lv_iload C.1 C.2.1 dL_acts_257 (lv_at hl 2 rfl) ?_
            obtain ⟨j259_29, hj259_29, h⟩ := jx_join (P := fun j259_29 : Int → Prop => ∀ (x28 : Int) (H : Heap) (locs : List Loc) (ls : Array Slot), j259_29 x28 → (x28 = 0 ∨ x28 = 1) → Hp G M s.heap H locs → lv_has ls 18 [(2, .int (jI x12)), (8, .int (jI x11)), (7, .int (jI x6)), (6, .int (jI x4)), (4, .int (jI x2)), (3, .int (jI x1)), (0, .ref (jD G a1))] → W p l e (rmm 9 232) s m args below meth c H locs 0 0 (MQ below (qZ G k) args s 0 0 (gA G)) (F0 m 289 ls [.int (jI x28)])) h (by
              intro x28 H locs ls h z_x28 B hl
              refine lv_istore (lv' := [(9, .int (jI x28)), (2, .int (jI x12)), (8, .int (jI x11)), (7, .int (jI x6)), (6, .int (jI x4)), (4, .int (jI x2)), (3, .int (jI x1)), (0, .ref (jD G a1))]) C.1 C.2.1 dL_acts_289 hl (by decide) rfl (fun ls hl => ?_)
              refine lv_iload_n C.1 C.2.1 dL_acts_291 rfl (lv_at hl 6 rfl) ?_
              refine jr_bipush C dL_acts_292 (by decide) ?_
              refine jr_icmp_ge (tgt := 328) C r_x1 (jkc rfl) h dL_acts_294 (by decide) (fun hc294 h => ?_) (fun hc294 h => ?_)
              · refine lv_aload_n C.1 C.2.1 dL_acts_297 rfl (lv_at hl 7 rfl) ?_
                refine lv_iload C.1 C.2.1 dL_acts_298 (lv_at hl 2 rfl) ?_
                refine lv_iload C.1 C.2.1 dL_acts_300 (lv_at hl 4 rfl) ?_
                refine lv_iload_n C.1 C.2.1 dL_acts_302 rfl (lv_at hl 6 rfl) ?_
                refine jr_bipush C dL_acts_303 (by decide) ?_
                refine jr_icmp_ge (tgt := 312) C r_x1 (jkc rfl) h dL_acts_305 (by decide) (fun hc305 h => ?_) (fun hc305 h => ?_)
                · refine jr_iconst C dL_acts_308 ?_
                  refine lv_goto (tgt := 323) C.1 C.2.1 dL_acts_309 (by decide) ?_
                  refine lv_iload_n C.1 C.2.1 dL_acts_323 rfl (lv_at hl 1 rfl) ?_
                  refine cl_L_edits C hl.1 B q_471 ⟨Nat.le_of_ble_eq_true rfl, Nat.le_of_ble_eq_true rfl⟩ ⟨Nat.zero_le _, Nat.zero_le _⟩ (Nat.le_of_ble_eq_true rfl) k_a1 r_x11 r_x4 (jkc rfl) r_x12 h dL_acts_324 (fun x30 M31 z_x30 _ _ h B => ?_)
                  have o_M31 := B.2.2
                  exact jr_zret C B hr hlocks z_x30 h dL_acts_327
                · refine lv_iload_n C.1 C.2.1 dL_acts_312 rfl (lv_at hl 6 rfl) ?_
                  refine jr_bipush C dL_acts_313 (by decide) ?_
                  refine jr_icmp_ge (tgt := 322) C r_x1 (jkc rfl) h dL_acts_315 (by decide) (fun hc315 h => ?_) (fun hc315 h => ?_)
                  · refine jr_iconst C dL_acts_318 ?_
                    refine lv_goto (tgt := 323) C.1 C.2.1 dL_acts_319 (by decide) ?_
                    refine lv_iload_n C.1 C.2.1 dL_acts_323 rfl (lv_at hl 1 rfl) ?_
                    refine cl_L_edits C hl.1 B q_471 ⟨Nat.le_of_ble_eq_true rfl, Nat.le_of_ble_eq_true rfl⟩ ⟨Nat.zero_le _, Nat.zero_le _⟩ (Nat.le_of_ble_eq_true rfl) k_a1 r_x11 r_x4 (jkc rfl) r_x12 h dL_acts_324 (fun x32 M33 z_x32 _ _ h B => ?_)
                    have o_M33 := B.2.2
                    exact jr_zret C B hr hlocks z_x32 h dL_acts_327
                  · refine jr_iconst C dL_acts_322 ?_
                    refine lv_iload_n C.1 C.2.1 dL_acts_323 rfl (lv_at hl 1 rfl) ?_
                    refine cl_L_edits C hl.1 B q_471 ⟨Nat.le_of_ble_eq_true rfl, Nat.le_of_ble_eq_true rfl⟩ ⟨Nat.zero_le _, Nat.zero_le _⟩ (Nat.le_of_ble_eq_true rfl) k_a1 r_x11 r_x4 (jkc rfl) r_x12 h dL_acts_324 (fun x34 M35 z_x34 _ _ h B => ?_)
                    have o_M35 := B.2.2
                    exact jr_zret C B hr hlocks z_x34 h dL_acts_327
              · refine lv_iload_n C.1 C.2.1 dL_acts_328 rfl (lv_at hl 6 rfl) ?_
                refine jr_bipush C dL_acts_329 (by decide) ?_
                refine jr_icmp_ge (tgt := 344) C r_x1 (jkc rfl) h dL_acts_331 (by decide) (fun hc331 h => ?_) (fun hc331 h => ?_)
                · refine lv_aload_n C.1 C.2.1 dL_acts_334 rfl (lv_at hl 7 rfl) ?_
                  refine lv_iload C.1 C.2.1 dL_acts_335 (lv_at hl 2 rfl) ?_
                  refine lv_iload C.1 C.2.1 dL_acts_337 (lv_at hl 4 rfl) ?_
                  refine lv_iload_n C.1 C.2.1 dL_acts_339 rfl (lv_at hl 1 rfl) ?_
                  refine cl_L_loads C hl.1 B q_534 ⟨Nat.le_of_ble_eq_true rfl, Nat.le_of_ble_eq_true rfl⟩ ⟨Nat.zero_le _, Nat.zero_le _⟩ (Nat.le_of_ble_eq_true rfl) k_a1 r_x11 r_x4 r_x12 h dL_acts_340 (fun x36 M37 z_x36 _ _ h B => ?_)
                  have o_M37 := B.2.2
                  exact jr_zret C B hr hlocks z_x36 h dL_acts_343
                · refine lv_iload_n C.1 C.2.1 dL_acts_344 rfl (lv_at hl 6 rfl) ?_
                  refine jr_bipush C dL_acts_345 (by decide) ?_
                  refine jr_icmp_ne (tgt := 421) C r_x1 (jkc rfl) h dL_acts_347 (by decide) (fun hc347 h => ?_) (fun hc347 h => ?_)
                  · refine lv_aload_n C.1 C.2.1 dL_acts_350 rfl (lv_at hl 7 rfl) ?_
                    refine lv_iload C.1 C.2.1 dL_acts_351 (lv_at hl 2 rfl) ?_
                    refine lv_iload C.1 C.2.1 dL_acts_353 (lv_at hl 4 rfl) ?_
                    refine cl_X6_lock C hl.1 B q_647 ⟨Nat.le_of_ble_eq_true rfl, Nat.le_of_ble_eq_true rfl⟩ ⟨Nat.zero_le _, Nat.zero_le _⟩ (Nat.le_of_ble_eq_true rfl) k_a1 r_x11 r_x4 h dL_acts_355 (fun x38 M39 r_x38 _ _ h B => ?_)
                    have o_M39 := B.2.2
                    refine lv_istore (lv' := [(10, .int (jI x38)), (9, .int (jI x28)), (2, .int (jI x12)), (8, .int (jI x11)), (7, .int (jI x6)), (6, .int (jI x4)), (4, .int (jI x2)), (3, .int (jI x1)), (0, .ref (jD G a1))]) C.1 C.2.1 dL_acts_358 hl (by decide) rfl (fun ls hl => ?_)
                    refine lv_iload C.1 C.2.1 dL_acts_360 (lv_at hl 0 rfl) ?_
                    refine lv_iload C.1 C.2.1 dL_acts_362 (lv_at hl 3 rfl) ?_
                    refine jr_iconst C dL_acts_364 ?_
                    obtain ⟨j365_41, hj365_41, h⟩ := jx_join (P := fun j365_41 : Int → Prop => ∀ (x40 : Int) (H : Heap) (locs : List Loc) (ls : Array Slot), j365_41 x40 → jR x40 → Hp G M39 s.heap H locs → lv_has ls 18 [(10, .int (jI x38)), (8, .int (jI x11)), (6, .int (jI x4)), (0, .ref (jD G a1))] → W p l e (rmm 9 232) s m args below meth c H locs 0 0 (MQ below (qZ G k) args s 0 0 (gA G)) (F0 m 390 ls [.int (jI x40), .int (jI x38)])) h (by
                      intro x40 H locs ls h r_x40 B hl
                      refine jr_icmp_ne (tgt := 419) C r_x38 r_x40 h dL_acts_390 (by decide) (fun hc390 h => ?_) (fun hc390 h => ?_)
                      · refine lv_iload C.1 C.2.1 dL_acts_393 (lv_at hl 0 rfl) ?_
                        refine jr_if_lt (tgt := 415) C r_x38 h dL_acts_395 (by decide) (fun hc395 h => ?_) (fun hc395 h => ?_)
                        · refine jr_iconst C dL_acts_415 ?_
                          refine lv_goto (tgt := 420) C.1 C.2.1 dL_acts_416 (by decide) ?_
                          exact jr_zret C B hr hlocks (Or.inr rfl) h dL_acts_420
                        · refine lv_iload C.1 C.2.1 dL_acts_398 (lv_at hl 0 rfl) ?_
                          refine jr_iconst C dL_acts_400 ?_
                          refine jr_icmp_lt (tgt := 419) C r_x38 (jkc rfl) h dL_acts_401 (by decide) (fun hc401 h => ?_) (fun hc401 h => ?_)
                          · refine jr_iconst C dL_acts_419 ?_
                            exact jr_zret C B hr hlocks (Or.inl rfl) h dL_acts_420
                          · refine lv_aload_n C.1 C.2.1 dL_acts_404 rfl (lv_at hl 3 rfl) ?_
                            refine lv_iload C.1 C.2.1 dL_acts_405 (lv_at hl 2 rfl) ?_
                            refine cl_X6_locker C hl.1 B q_267 ⟨Nat.le_of_ble_eq_true rfl, Nat.le_of_ble_eq_true rfl⟩ ⟨Nat.zero_le _, Nat.zero_le _⟩ (Nat.le_of_ble_eq_true rfl) k_a1 r_x4 h dL_acts_407 (fun x42 r_x42 _ _ h B => ?_)
                            refine lv_iload C.1 C.2.1 dL_acts_410 (lv_at hl 1 rfl) ?_
                            refine jr_icmp_ne (tgt := 419) C r_x42 r_x11 h dL_acts_412 (by decide) (fun hc412 h => ?_) (fun hc412 h => ?_)
                            · refine jr_iconst C dL_acts_415 ?_
                              refine lv_goto (tgt := 420) C.1 C.2.1 dL_acts_416 (by decide) ?_
                              exact jr_zret C B hr hlocks (Or.inr rfl) h dL_acts_420
                            · refine jr_iconst C dL_acts_419 ?_
                              exact jr_zret C B hr hlocks (Or.inl rfl) h dL_acts_420
                      · refine jr_iconst C dL_acts_419 ?_
                        exact jr_zret C B hr hlocks (Or.inl rfl) h dL_acts_420)
                    refine jr_icmp_gt (tgt := 373) C r_x11 (jkc rfl) h dL_acts_365 (by decide) (fun hc365 h => ?_) (fun hc365 h => ?_)
                    · refine lv_iload C.1 C.2.1 dL_acts_368 (lv_at hl 4 rfl) ?_
                      refine jr_if_ne (tgt := 378) C (zR z_x6) h dL_acts_370 (by decide) (fun hc370 h => ?_) (fun hc370 h => ?_)
                      · refine jr_ldc (n := -1000001) C q_315 (by decide) dL_acts_373 ?_
                        refine lv_goto (tgt := 390) C.1 C.2.1 dL_acts_375 (by decide) ?_
                        exact hj365_41 _ _ _ _ h (jkc rfl) B (lv_sub hl [0, 3, 5, 8] rfl)
                      · refine lv_iload C.1 C.2.1 dL_acts_378 (lv_at hl 1 rfl) ?_
                        refine jr_if_eq (tgt := 388) C (zR z_x28) h dL_acts_380 (by decide) (fun hc380 h => ?_) (fun hc380 h => ?_)
                        · refine lv_iload C.1 C.2.1 dL_acts_388 (lv_at hl 0 rfl) ?_
                          exact hj365_41 _ _ _ _ h r_x38 B (lv_sub hl [0, 3, 5, 8] rfl)
                        · refine jr_ldc (n := -1000006) C q_511 (by decide) dL_acts_383 ?_
                          refine lv_goto (tgt := 390) C.1 C.2.1 dL_acts_385 (by decide) ?_
                          exact hj365_41 _ _ _ _ h (jkc rfl) B (lv_sub hl [0, 3, 5, 8] rfl)
                    · refine jr_ldc (n := -1000001) C q_315 (by decide) dL_acts_373 ?_
                      refine lv_goto (tgt := 390) C.1 C.2.1 dL_acts_375 (by decide) ?_
                      exact hj365_41 _ _ _ _ h (jkc rfl) B (lv_sub hl [0, 3, 5, 8] rfl)
                  · refine lv_iload_n C.1 C.2.1 dL_acts_421 rfl (lv_at hl 6 rfl) ?_
                    refine jr_bipush C dL_acts_422 (by decide) ?_
                    refine jr_icmp_ne (tgt := 556) C r_x1 (jkc rfl) h dL_acts_424 (by decide) (fun hc424 h => ?_) (fun hc424 h => ?_)
                    · refine lv_iload C.1 C.2.1 dL_acts_427 (lv_at hl 3 rfl) ?_
                      obtain ⟨j429_44, hj429_44, h⟩ := jx_join (P := fun j429_44 : Int → Prop => ∀ (x43 : Int) (H : Heap) (locs : List Loc) (ls : Array Slot), j429_44 x43 → (x43 = 0 ∨ x43 = 1) → Hp G M s.heap H locs → lv_has ls 18 [(9, .int (jI x28)), (8, .int (jI x11)), (7, .int (jI x6)), (6, .int (jI x4)), (4, .int (jI x2)), (0, .ref (jD G a1))] → W p l e (rmm 9 232) s m args below meth c H locs 0 0 (MQ below (qZ G k) args s 0 0 (gA G)) (F0 m 448 ls [.int (jI x43)])) h (by
                        intro x43 H locs ls h z_x43 B hl
                        refine lv_istore (lv' := [(10, .int (jI x43)), (9, .int (jI x28)), (8, .int (jI x11)), (7, .int (jI x6)), (6, .int (jI x4)), (4, .int (jI x2)), (0, .ref (jD G a1))]) C.1 C.2.1 dL_acts_448 hl (by decide) rfl (fun ls hl => ?_)
                        refine lv_aload_n C.1 C.2.1 dL_acts_450 rfl (lv_at hl 6 rfl) ?_
                        refine lv_iload C.1 C.2.1 dL_acts_451 (lv_at hl 2 rfl) ?_
                        refine lv_iload C.1 C.2.1 dL_acts_453 (lv_at hl 4 rfl) ?_
                        refine cl_X6_unlock C hl.1 B q_655 ⟨Nat.le_of_ble_eq_true rfl, Nat.le_of_ble_eq_true rfl⟩ ⟨Nat.zero_le _, Nat.zero_le _⟩ (Nat.le_of_ble_eq_true rfl) k_a1 r_x11 r_x4 h dL_acts_455 (fun x45 M46 r_x45 _ _ h B => ?_)
                        have o_M46 := B.2.2
                        refine lv_istore (lv' := [(11, .int (jI x45)), (10, .int (jI x43)), (9, .int (jI x28)), (8, .int (jI x11)), (7, .int (jI x6)), (6, .int (jI x4)), (4, .int (jI x2)), (0, .ref (jD G a1))]) C.1 C.2.1 dL_acts_458 hl (by decide) rfl (fun ls hl => ?_)
                        refine lv_iload C.1 C.2.1 dL_acts_460 (lv_at hl 3 rfl) ?_
                        refine jr_iconst C dL_acts_462 ?_
                        refine jr_icmp_gt (tgt := 471) C r_x11 (jkc rfl) h dL_acts_463 (by decide) (fun hc463 h => ?_) (fun hc463 h => ?_)
                        · refine lv_iload C.1 C.2.1 dL_acts_466 (lv_at hl 4 rfl) ?_
                          refine jr_if_ne (tgt := 481) C (zR z_x6) h dL_acts_468 (by decide) (fun hc468 h => ?_) (fun hc468 h => ?_)
                          · refine lv_iload C.1 C.2.1 dL_acts_471 (lv_at hl 0 rfl) ?_
                            refine jr_ldc (n := -1000001) C q_315 (by decide) dL_acts_473 ?_
                            refine jr_icmp_ne (tgt := 554) C r_x45 (jkc rfl) h dL_acts_475 (by decide) (fun hc475 h => ?_) (fun hc475 h => ?_)
                            · refine lv_goto (tgt := 523) C.1 C.2.1 dL_acts_478 (by decide) ?_
                              refine lv_iload C.1 C.2.1 dL_acts_523 (lv_at hl 4 rfl) ?_
                              refine jr_if_eq (tgt := 550) C (zR z_x6) h dL_acts_525 (by decide) (fun hc525 h => ?_) (fun hc525 h => ?_)
                              · refine jr_iconst C dL_acts_550 ?_
                                refine lv_goto (tgt := 555) C.1 C.2.1 dL_acts_551 (by decide) ?_
                                exact jr_zret C B hr hlocks (Or.inr rfl) h dL_acts_555
                              · refine lv_iload C.1 C.2.1 dL_acts_528 (lv_at hl 2 rfl) ?_
                                refine jr_if_ne (tgt := 550) C (zR z_x28) h dL_acts_530 (by decide) (fun hc530 h => ?_) (fun hc530 h => ?_)
                                · refine lv_iload C.1 C.2.1 dL_acts_533 (lv_at hl 3 rfl) ?_
                                  refine jr_iconst C dL_acts_535 ?_
                                  refine jr_icmp_gt (tgt := 550) C r_x11 (jkc rfl) h dL_acts_536 (by decide) (fun hc536 h => ?_) (fun hc536 h => ?_)
                                  · refine lv_aload_n C.1 C.2.1 dL_acts_539 rfl (lv_at hl 7 rfl) ?_
                                    refine lv_iload C.1 C.2.1 dL_acts_540 (lv_at hl 5 rfl) ?_
                                    refine cl_X6_locker C hl.1 B q_267 ⟨Nat.le_of_ble_eq_true rfl, Nat.le_of_ble_eq_true rfl⟩ ⟨Nat.zero_le _, Nat.zero_le _⟩ (Nat.le_of_ble_eq_true rfl) k_a1 r_x4 h dL_acts_542 (fun x47 r_x47 _ _ h B => ?_)
                                    refine jr_ldc (n := -1000007) C q_313 (by decide) dL_acts_545 ?_
                                    refine jr_icmp_ne (tgt := 554) C r_x47 (jkc rfl) h dL_acts_547 (by decide) (fun hc547 h => ?_) (fun hc547 h => ?_)
                                    · refine jr_iconst C dL_acts_550 ?_
                                      refine lv_goto (tgt := 555) C.1 C.2.1 dL_acts_551 (by decide) ?_
                                      exact jr_zret C B hr hlocks (Or.inr rfl) h dL_acts_555
                                    · refine jr_iconst C dL_acts_554 ?_
                                      exact jr_zret C B hr hlocks (Or.inl rfl) h dL_acts_555
                                  · refine jr_iconst C dL_acts_550 ?_
                                    refine lv_goto (tgt := 555) C.1 C.2.1 dL_acts_551 (by decide) ?_
                                    exact jr_zret C B hr hlocks (Or.inr rfl) h dL_acts_555
                                · refine jr_iconst C dL_acts_550 ?_
                                  refine lv_goto (tgt := 555) C.1 C.2.1 dL_acts_551 (by decide) ?_
                                  exact jr_zret C B hr hlocks (Or.inr rfl) h dL_acts_555
                            · refine jr_iconst C dL_acts_554 ?_
                              exact jr_zret C B hr hlocks (Or.inl rfl) h dL_acts_555
                          · refine lv_iload C.1 C.2.1 dL_acts_481 (lv_at hl 2 rfl) ?_
                            refine jr_if_eq (tgt := 496) C (zR z_x28) h dL_acts_483 (by decide) (fun hc483 h => ?_) (fun hc483 h => ?_)
                            · refine lv_iload C.1 C.2.1 dL_acts_496 (lv_at hl 1 rfl) ?_
                              refine jr_if_eq (tgt := 511) C (zR z_x43) h dL_acts_498 (by decide) (fun hc498 h => ?_) (fun hc498 h => ?_)
                              · refine lv_iload C.1 C.2.1 dL_acts_511 (lv_at hl 0 rfl) ?_
                                refine jr_if_lt (tgt := 554) C r_x45 h dL_acts_513 (by decide) (fun hc513 h => ?_) (fun hc513 h => ?_)
                                · refine jr_iconst C dL_acts_554 ?_
                                  exact jr_zret C B hr hlocks (Or.inl rfl) h dL_acts_555
                                · refine lv_iload C.1 C.2.1 dL_acts_516 (lv_at hl 0 rfl) ?_
                                  refine lv_iload C.1 C.2.1 dL_acts_518 (lv_at hl 6 rfl) ?_
                                  refine jr_icmp_ge (tgt := 554) C r_x45 r_x2 h dL_acts_520 (by decide) (fun hc520 h => ?_) (fun hc520 h => ?_)
                                  · refine lv_iload C.1 C.2.1 dL_acts_523 (lv_at hl 4 rfl) ?_
                                    refine jr_if_eq (tgt := 550) C (zR z_x6) h dL_acts_525 (by decide) (fun hc525 h => ?_) (fun hc525 h => ?_)
                                    · refine jr_iconst C dL_acts_550 ?_
                                      refine lv_goto (tgt := 555) C.1 C.2.1 dL_acts_551 (by decide) ?_
                                      exact jr_zret C B hr hlocks (Or.inr rfl) h dL_acts_555
                                    · refine lv_iload C.1 C.2.1 dL_acts_528 (lv_at hl 2 rfl) ?_
                                      refine jr_if_ne (tgt := 550) C (zR z_x28) h dL_acts_530 (by decide) (fun hc530 h => ?_) (fun hc530 h => ?_)
                                      · refine lv_iload C.1 C.2.1 dL_acts_533 (lv_at hl 3 rfl) ?_
                                        refine jr_iconst C dL_acts_535 ?_
                                        refine jr_icmp_gt (tgt := 550) C r_x11 (jkc rfl) h dL_acts_536 (by decide) (fun hc536 h => ?_) (fun hc536 h => ?_)
                                        · refine lv_aload_n C.1 C.2.1 dL_acts_539 rfl (lv_at hl 7 rfl) ?_
                                          refine lv_iload C.1 C.2.1 dL_acts_540 (lv_at hl 5 rfl) ?_
                                          refine cl_X6_locker C hl.1 B q_267 ⟨Nat.le_of_ble_eq_true rfl, Nat.le_of_ble_eq_true rfl⟩ ⟨Nat.zero_le _, Nat.zero_le _⟩ (Nat.le_of_ble_eq_true rfl) k_a1 r_x4 h dL_acts_542 (fun x48 r_x48 _ _ h B => ?_)
                                          refine jr_ldc (n := -1000007) C q_313 (by decide) dL_acts_545 ?_
                                          refine jr_icmp_ne (tgt := 554) C r_x48 (jkc rfl) h dL_acts_547 (by decide) (fun hc547 h => ?_) (fun hc547 h => ?_)
                                          · refine jr_iconst C dL_acts_550 ?_
                                            refine lv_goto (tgt := 555) C.1 C.2.1 dL_acts_551 (by decide) ?_
                                            exact jr_zret C B hr hlocks (Or.inr rfl) h dL_acts_555
                                          · refine jr_iconst C dL_acts_554 ?_
                                            exact jr_zret C B hr hlocks (Or.inl rfl) h dL_acts_555
                                        · refine jr_iconst C dL_acts_550 ?_
                                          refine lv_goto (tgt := 555) C.1 C.2.1 dL_acts_551 (by decide) ?_
                                          exact jr_zret C B hr hlocks (Or.inr rfl) h dL_acts_555
                                      · refine jr_iconst C dL_acts_550 ?_
                                        refine lv_goto (tgt := 555) C.1 C.2.1 dL_acts_551 (by decide) ?_
                                        exact jr_zret C B hr hlocks (Or.inr rfl) h dL_acts_555
                                  · refine jr_iconst C dL_acts_554 ?_
                                    exact jr_zret C B hr hlocks (Or.inl rfl) h dL_acts_555
                              · refine lv_iload C.1 C.2.1 dL_acts_501 (lv_at hl 0 rfl) ?_
                                refine jr_ldc (n := -1000005) C q_469 (by decide) dL_acts_503 ?_
                                refine jr_icmp_ne (tgt := 554) C r_x45 (jkc rfl) h dL_acts_505 (by decide) (fun hc505 h => ?_) (fun hc505 h => ?_)
                                · refine lv_goto (tgt := 523) C.1 C.2.1 dL_acts_508 (by decide) ?_
                                  refine lv_iload C.1 C.2.1 dL_acts_523 (lv_at hl 4 rfl) ?_
                                  refine jr_if_eq (tgt := 550) C (zR z_x6) h dL_acts_525 (by decide) (fun hc525 h => ?_) (fun hc525 h => ?_)
                                  · refine jr_iconst C dL_acts_550 ?_
                                    refine lv_goto (tgt := 555) C.1 C.2.1 dL_acts_551 (by decide) ?_
                                    exact jr_zret C B hr hlocks (Or.inr rfl) h dL_acts_555
                                  · refine lv_iload C.1 C.2.1 dL_acts_528 (lv_at hl 2 rfl) ?_
                                    refine jr_if_ne (tgt := 550) C (zR z_x28) h dL_acts_530 (by decide) (fun hc530 h => ?_) (fun hc530 h => ?_)
                                    · refine lv_iload C.1 C.2.1 dL_acts_533 (lv_at hl 3 rfl) ?_
                                      refine jr_iconst C dL_acts_535 ?_
                                      refine jr_icmp_gt (tgt := 550) C r_x11 (jkc rfl) h dL_acts_536 (by decide) (fun hc536 h => ?_) (fun hc536 h => ?_)
                                      · refine lv_aload_n C.1 C.2.1 dL_acts_539 rfl (lv_at hl 7 rfl) ?_
                                        refine lv_iload C.1 C.2.1 dL_acts_540 (lv_at hl 5 rfl) ?_
                                        refine cl_X6_locker C hl.1 B q_267 ⟨Nat.le_of_ble_eq_true rfl, Nat.le_of_ble_eq_true rfl⟩ ⟨Nat.zero_le _, Nat.zero_le _⟩ (Nat.le_of_ble_eq_true rfl) k_a1 r_x4 h dL_acts_542 (fun x49 r_x49 _ _ h B => ?_)
                                        refine jr_ldc (n := -1000007) C q_313 (by decide) dL_acts_545 ?_
                                        refine jr_icmp_ne (tgt := 554) C r_x49 (jkc rfl) h dL_acts_547 (by decide) (fun hc547 h => ?_) (fun hc547 h => ?_)
                                        · refine jr_iconst C dL_acts_550 ?_
                                          refine lv_goto (tgt := 555) C.1 C.2.1 dL_acts_551 (by decide) ?_
                                          exact jr_zret C B hr hlocks (Or.inr rfl) h dL_acts_555
                                        · refine jr_iconst C dL_acts_554 ?_
                                          exact jr_zret C B hr hlocks (Or.inl rfl) h dL_acts_555
                                      · refine jr_iconst C dL_acts_550 ?_
                                        refine lv_goto (tgt := 555) C.1 C.2.1 dL_acts_551 (by decide) ?_
                                        exact jr_zret C B hr hlocks (Or.inr rfl) h dL_acts_555
                                    · refine jr_iconst C dL_acts_550 ?_
                                      refine lv_goto (tgt := 555) C.1 C.2.1 dL_acts_551 (by decide) ?_
                                      exact jr_zret C B hr hlocks (Or.inr rfl) h dL_acts_555
                                · refine jr_iconst C dL_acts_554 ?_
                                  exact jr_zret C B hr hlocks (Or.inl rfl) h dL_acts_555
                            · refine lv_iload C.1 C.2.1 dL_acts_486 (lv_at hl 0 rfl) ?_
                              refine jr_ldc (n := -1000006) C q_511 (by decide) dL_acts_488 ?_
                              refine jr_icmp_ne (tgt := 554) C r_x45 (jkc rfl) h dL_acts_490 (by decide) (fun hc490 h => ?_) (fun hc490 h => ?_)
                              · refine lv_goto (tgt := 523) C.1 C.2.1 dL_acts_493 (by decide) ?_
                                refine lv_iload C.1 C.2.1 dL_acts_523 (lv_at hl 4 rfl) ?_
                                refine jr_if_eq (tgt := 550) C (zR z_x6) h dL_acts_525 (by decide) (fun hc525 h => ?_) (fun hc525 h => ?_)
                                · refine jr_iconst C dL_acts_550 ?_
                                  refine lv_goto (tgt := 555) C.1 C.2.1 dL_acts_551 (by decide) ?_
                                  exact jr_zret C B hr hlocks (Or.inr rfl) h dL_acts_555
                                · refine lv_iload C.1 C.2.1 dL_acts_528 (lv_at hl 2 rfl) ?_
                                  refine jr_if_ne (tgt := 550) C (zR z_x28) h dL_acts_530 (by decide) (fun hc530 h => ?_) (fun hc530 h => ?_)
                                  · refine lv_iload C.1 C.2.1 dL_acts_533 (lv_at hl 3 rfl) ?_
                                    refine jr_iconst C dL_acts_535 ?_
                                    refine jr_icmp_gt (tgt := 550) C r_x11 (jkc rfl) h dL_acts_536 (by decide) (fun hc536 h => ?_) (fun hc536 h => ?_)
                                    · refine lv_aload_n C.1 C.2.1 dL_acts_539 rfl (lv_at hl 7 rfl) ?_
                                      refine lv_iload C.1 C.2.1 dL_acts_540 (lv_at hl 5 rfl) ?_
                                      refine cl_X6_locker C hl.1 B q_267 ⟨Nat.le_of_ble_eq_true rfl, Nat.le_of_ble_eq_true rfl⟩ ⟨Nat.zero_le _, Nat.zero_le _⟩ (Nat.le_of_ble_eq_true rfl) k_a1 r_x4 h dL_acts_542 (fun x50 r_x50 _ _ h B => ?_)
                                      refine jr_ldc (n := -1000007) C q_313 (by decide) dL_acts_545 ?_
                                      refine jr_icmp_ne (tgt := 554) C r_x50 (jkc rfl) h dL_acts_547 (by decide) (fun hc547 h => ?_) (fun hc547 h => ?_)
                                      · refine jr_iconst C dL_acts_550 ?_
                                        refine lv_goto (tgt := 555) C.1 C.2.1 dL_acts_551 (by decide) ?_
                                        exact jr_zret C B hr hlocks (Or.inr rfl) h dL_acts_555
                                      · refine jr_iconst C dL_acts_554 ?_
                                        exact jr_zret C B hr hlocks (Or.inl rfl) h dL_acts_555
                                    · refine jr_iconst C dL_acts_550 ?_
                                      refine lv_goto (tgt := 555) C.1 C.2.1 dL_acts_551 (by decide) ?_
                                      exact jr_zret C B hr hlocks (Or.inr rfl) h dL_acts_555
                                  · refine jr_iconst C dL_acts_550 ?_
                                    refine lv_goto (tgt := 555) C.1 C.2.1 dL_acts_551 (by decide) ?_
                                    exact jr_zret C B hr hlocks (Or.inr rfl) h dL_acts_555
                              · refine jr_iconst C dL_acts_554 ?_
                                exact jr_zret C B hr hlocks (Or.inl rfl) h dL_acts_555
                        · refine lv_iload C.1 C.2.1 dL_acts_471 (lv_at hl 0 rfl) ?_
                          refine jr_ldc (n := -1000001) C q_315 (by decide) dL_acts_473 ?_
                          refine jr_icmp_ne (tgt := 554) C r_x45 (jkc rfl) h dL_acts_475 (by decide) (fun hc475 h => ?_) (fun hc475 h => ?_)
                          · refine lv_goto (tgt := 523) C.1 C.2.1 dL_acts_478 (by decide) ?_
                            refine lv_iload C.1 C.2.1 dL_acts_523 (lv_at hl 4 rfl) ?_
                            refine jr_if_eq (tgt := 550) C (zR z_x6) h dL_acts_525 (by decide) (fun hc525 h => ?_) (fun hc525 h => ?_)
                            · refine jr_iconst C dL_acts_550 ?_
                              refine lv_goto (tgt := 555) C.1 C.2.1 dL_acts_551 (by decide) ?_
                              exact jr_zret C B hr hlocks (Or.inr rfl) h dL_acts_555
                            · refine lv_iload C.1 C.2.1 dL_acts_528 (lv_at hl 2 rfl) ?_
                              refine jr_if_ne (tgt := 550) C (zR z_x28) h dL_acts_530 (by decide) (fun hc530 h => ?_) (fun hc530 h => ?_)
                              · refine lv_iload C.1 C.2.1 dL_acts_533 (lv_at hl 3 rfl) ?_
                                refine jr_iconst C dL_acts_535 ?_
                                refine jr_icmp_gt (tgt := 550) C r_x11 (jkc rfl) h dL_acts_536 (by decide) (fun hc536 h => ?_) (fun hc536 h => ?_)
                                · refine lv_aload_n C.1 C.2.1 dL_acts_539 rfl (lv_at hl 7 rfl) ?_
                                  refine lv_iload C.1 C.2.1 dL_acts_540 (lv_at hl 5 rfl) ?_
                                  refine cl_X6_locker C hl.1 B q_267 ⟨Nat.le_of_ble_eq_true rfl, Nat.le_of_ble_eq_true rfl⟩ ⟨Nat.zero_le _, Nat.zero_le _⟩ (Nat.le_of_ble_eq_true rfl) k_a1 r_x4 h dL_acts_542 (fun x51 r_x51 _ _ h B => ?_)
                                  refine jr_ldc (n := -1000007) C q_313 (by decide) dL_acts_545 ?_
                                  refine jr_icmp_ne (tgt := 554) C r_x51 (jkc rfl) h dL_acts_547 (by decide) (fun hc547 h => ?_) (fun hc547 h => ?_)
                                  · refine jr_iconst C dL_acts_550 ?_
                                    refine lv_goto (tgt := 555) C.1 C.2.1 dL_acts_551 (by decide) ?_
                                    exact jr_zret C B hr hlocks (Or.inr rfl) h dL_acts_555
                                  · refine jr_iconst C dL_acts_554 ?_
                                    exact jr_zret C B hr hlocks (Or.inl rfl) h dL_acts_555
                                · refine jr_iconst C dL_acts_550 ?_
                                  refine lv_goto (tgt := 555) C.1 C.2.1 dL_acts_551 (by decide) ?_
                                  exact jr_zret C B hr hlocks (Or.inr rfl) h dL_acts_555
                              · refine jr_iconst C dL_acts_550 ?_
                                refine lv_goto (tgt := 555) C.1 C.2.1 dL_acts_551 (by decide) ?_
                                exact jr_zret C B hr hlocks (Or.inr rfl) h dL_acts_555
                          · refine jr_iconst C dL_acts_554 ?_
                            exact jr_zret C B hr hlocks (Or.inl rfl) h dL_acts_555)
                      refine jr_if_eq (tgt := 447) C (zR z_x6) h dL_acts_429 (by decide) (fun hc429 h => ?_) (fun hc429 h => ?_)
                      · refine jr_iconst C dL_acts_447 ?_
                        exact hj429_44 _ _ _ _ h (Or.inl rfl) B (lv_sub hl [0, 2, 3, 4, 5, 7] rfl)
                      · refine lv_aload_n C.1 C.2.1 dL_acts_432 rfl (lv_at hl 7 rfl) ?_
                        refine lv_iload C.1 C.2.1 dL_acts_433 (lv_at hl 4 rfl) ?_
                        refine cl_X6_locker C hl.1 B q_267 ⟨Nat.le_of_ble_eq_true rfl, Nat.le_of_ble_eq_true rfl⟩ ⟨Nat.zero_le _, Nat.zero_le _⟩ (Nat.le_of_ble_eq_true rfl) k_a1 r_x4 h dL_acts_435 (fun x52 r_x52 _ _ h B => ?_)
                        refine jr_ldc (n := -1000007) C q_313 (by decide) dL_acts_438 ?_
                        refine jr_icmp_ne (tgt := 447) C r_x52 (jkc rfl) h dL_acts_440 (by decide) (fun hc440 h => ?_) (fun hc440 h => ?_)
                        · refine jr_iconst C dL_acts_443 ?_
                          refine lv_goto (tgt := 448) C.1 C.2.1 dL_acts_444 (by decide) ?_
                          exact hj429_44 _ _ _ _ h (Or.inr rfl) B (lv_sub hl [0, 2, 3, 4, 5, 7] rfl)
                        · refine jr_iconst C dL_acts_447 ?_
                          exact hj429_44 _ _ _ _ h (Or.inl rfl) B (lv_sub hl [0, 2, 3, 4, 5, 7] rfl)
                    · refine lv_iload_n C.1 C.2.1 dL_acts_556 rfl (lv_at hl 6 rfl) ?_
                      refine jr_bipush C dL_acts_557 (by decide) ?_
                      refine jr_icmp_ne (tgt := 617) C r_x1 (jkc rfl) h dL_acts_559 (by decide) (fun hc559 h => ?_) (fun hc559 h => ?_)
                      · refine lv_iload_n C.1 C.2.1 dL_acts_562 rfl (lv_at hl 1 rfl) ?_
                        refine jr_iconst C dL_acts_563 ?_
                        refine cl_L_low C hl.1 B q_220 ⟨Nat.le_of_ble_eq_true rfl, Nat.le_of_ble_eq_true rfl⟩ ⟨Nat.zero_le _, Nat.zero_le _⟩ (Nat.le_of_ble_eq_true rfl) r_x12 (jkc rfl) h dL_acts_564 (fun x53 r_x53 _ _ h B => ?_)
                        refine jr_if_gt (tgt := 611) C r_x53 h dL_acts_567 (by decide) (fun hc567 h => ?_) (fun hc567 h => ?_)
                        · refine lv_aload_n C.1 C.2.1 dL_acts_570 rfl (lv_at hl 7 rfl) ?_
                          refine lv_iload C.1 C.2.1 dL_acts_571 (lv_at hl 2 rfl) ?_
                          refine lv_iload C.1 C.2.1 dL_acts_573 (lv_at hl 4 rfl) ?_
                          refine cl_X6_delete C hl.1 B q_659 ⟨Nat.le_of_ble_eq_true rfl, Nat.le_of_ble_eq_true rfl⟩ ⟨Nat.zero_le _, Nat.zero_le _⟩ (Nat.le_of_ble_eq_true rfl) k_a1 r_x11 r_x4 h dL_acts_575 (fun x54 M55 r_x54 _ _ h B => ?_)
                          have o_M55 := B.2.2
                          refine lv_iload C.1 C.2.1 dL_acts_578 (lv_at hl 2 rfl) ?_
                          refine jr_iconst C dL_acts_580 ?_
                          refine jr_icmp_gt (tgt := 589) C r_x11 (jkc rfl) h dL_acts_581 (by decide) (fun hc581 h => ?_) (fun hc581 h => ?_)
                          · refine lv_iload C.1 C.2.1 dL_acts_584 (lv_at hl 3 rfl) ?_
                            refine jr_if_ne (tgt := 594) C (zR z_x6) h dL_acts_586 (by decide) (fun hc586 h => ?_) (fun hc586 h => ?_)
                            · refine jr_ldc (n := -1000001) C q_315 (by decide) dL_acts_589 ?_
                              refine lv_goto (tgt := 608) C.1 C.2.1 dL_acts_591 (by decide) ?_
                              refine jr_icmp_ne (tgt := 615) C r_x54 (jkc rfl) h dL_acts_608 (by decide) (fun hc608 h => ?_) (fun hc608 h => ?_)
                              · refine jr_iconst C dL_acts_611 ?_
                                refine lv_goto (tgt := 616) C.1 C.2.1 dL_acts_612 (by decide) ?_
                                exact jr_zret C B hr hlocks (Or.inr rfl) h dL_acts_616
                              · refine jr_iconst C dL_acts_615 ?_
                                exact jr_zret C B hr hlocks (Or.inl rfl) h dL_acts_616
                            · refine lv_iload C.1 C.2.1 dL_acts_594 (lv_at hl 0 rfl) ?_
                              refine jr_if_eq (tgt := 604) C (zR z_x28) h dL_acts_596 (by decide) (fun hc596 h => ?_) (fun hc596 h => ?_)
                              · refine lv_iload C.1 C.2.1 dL_acts_604 (lv_at hl 5 rfl) ?_
                                refine jr_iconst C dL_acts_606 ?_
                                refine jr_isub C dL_acts_607 ?_
                                refine jr_icmp_ne (tgt := 615) C r_x54 (jW_R _) h dL_acts_608 (by decide) (fun hc608 h => ?_) (fun hc608 h => ?_)
                                · refine jr_iconst C dL_acts_611 ?_
                                  refine lv_goto (tgt := 616) C.1 C.2.1 dL_acts_612 (by decide) ?_
                                  exact jr_zret C B hr hlocks (Or.inr rfl) h dL_acts_616
                                · refine jr_iconst C dL_acts_615 ?_
                                  exact jr_zret C B hr hlocks (Or.inl rfl) h dL_acts_616
                              · refine jr_ldc (n := -1000006) C q_511 (by decide) dL_acts_599 ?_
                                refine lv_goto (tgt := 608) C.1 C.2.1 dL_acts_601 (by decide) ?_
                                refine jr_icmp_ne (tgt := 615) C r_x54 (jkc rfl) h dL_acts_608 (by decide) (fun hc608 h => ?_) (fun hc608 h => ?_)
                                · refine jr_iconst C dL_acts_611 ?_
                                  refine lv_goto (tgt := 616) C.1 C.2.1 dL_acts_612 (by decide) ?_
                                  exact jr_zret C B hr hlocks (Or.inr rfl) h dL_acts_616
                                · refine jr_iconst C dL_acts_615 ?_
                                  exact jr_zret C B hr hlocks (Or.inl rfl) h dL_acts_616
                          · refine jr_ldc (n := -1000001) C q_315 (by decide) dL_acts_589 ?_
                            refine lv_goto (tgt := 608) C.1 C.2.1 dL_acts_591 (by decide) ?_
                            refine jr_icmp_ne (tgt := 615) C r_x54 (jkc rfl) h dL_acts_608 (by decide) (fun hc608 h => ?_) (fun hc608 h => ?_)
                            · refine jr_iconst C dL_acts_611 ?_
                              refine lv_goto (tgt := 616) C.1 C.2.1 dL_acts_612 (by decide) ?_
                              exact jr_zret C B hr hlocks (Or.inr rfl) h dL_acts_616
                            · refine jr_iconst C dL_acts_615 ?_
                              exact jr_zret C B hr hlocks (Or.inl rfl) h dL_acts_616
                        · refine jr_iconst C dL_acts_611 ?_
                          refine lv_goto (tgt := 616) C.1 C.2.1 dL_acts_612 (by decide) ?_
                          exact jr_zret C B hr hlocks (Or.inr rfl) h dL_acts_616
                      · refine lv_iload_n C.1 C.2.1 dL_acts_617 rfl (lv_at hl 6 rfl) ?_
                        refine jr_bipush C dL_acts_618 (by decide) ?_
                        refine jr_icmp_ne (tgt := 745) C r_x1 (jkc rfl) h dL_acts_620 (by decide) (fun hc620 h => ?_) (fun hc620 h => ?_)
                        · refine lv_iload_n C.1 C.2.1 dL_acts_623 rfl (lv_at hl 1 rfl) ?_
                          refine jr_iconst C dL_acts_624 ?_
                          refine jr_ishr C dL_acts_625 ?_
                          refine jr_bipush C dL_acts_626 (by decide) ?_
                          refine cl_L_low C hl.1 B q_220 ⟨Nat.le_of_ble_eq_true rfl, Nat.le_of_ble_eq_true rfl⟩ ⟨Nat.zero_le _, Nat.zero_le _⟩ (Nat.le_of_ble_eq_true rfl) (jShr_R _ _) (jkc rfl) h dL_acts_628 (fun x56 r_x56 _ _ h B => ?_)
                          refine jr_iconst C dL_acts_631 ?_
                          refine jr_isub C dL_acts_632 ?_
                          refine jr_nm h (jW_R _) (fun x57 h r_x57 => ?_)
                          refine lv_istore (lv' := [(10, .int (jI x57)), (9, .int (jI x28)), (2, .int (jI x12)), (8, .int (jI x11)), (7, .int (jI x6)), (6, .int (jI x4)), (4, .int (jI x2)), (3, .int (jI x1)), (0, .ref (jD G a1))]) C.1 C.2.1 dL_acts_633 hl (by decide) rfl (fun ls hl => ?_)
                          refine lv_iload C.1 C.2.1 dL_acts_635 (lv_at hl 4 rfl) ?_
                          obtain ⟨j637_59, hj637_59, h⟩ := jx_join (P := fun j637_59 : Int → Prop => ∀ (x58 : Int) (H : Heap) (locs : List Loc) (ls : Array Slot), j637_59 x58 → jR x58 → Hp G M s.heap H locs → lv_has ls 18 [(10, .int (jI x57)), (9, .int (jI x28)), (8, .int (jI x11)), (7, .int (jI x6)), (6, .int (jI x4)), (0, .ref (jD G a1))] → W p l e (rmm 9 232) s m args below meth c H locs 0 0 (MQ below (qZ G k) args s 0 0 (gA G)) (F0 m 650 ls [.int (jI x58)])) h (by
                            intro x58 H locs ls h r_x58 B hl
                            refine lv_istore (lv' := [(11, .int (jI x58)), (10, .int (jI x57)), (9, .int (jI x28)), (8, .int (jI x11)), (7, .int (jI x6)), (6, .int (jI x4)), (0, .ref (jD G a1))]) C.1 C.2.1 dL_acts_650 hl (by decide) rfl (fun ls hl => ?_)
                            refine lv_aload_n C.1 C.2.1 dL_acts_652 rfl (lv_at hl 6 rfl) ?_
                            refine lv_iload C.1 C.2.1 dL_acts_653 (lv_at hl 3 rfl) ?_
                            refine lv_iload C.1 C.2.1 dL_acts_655 (lv_at hl 5 rfl) ?_
                            refine lv_iload C.1 C.2.1 dL_acts_657 (lv_at hl 1 rfl) ?_
                            refine cl_X6_removeLine C hl.1 B q_667 ⟨Nat.le_of_ble_eq_true rfl, Nat.le_of_ble_eq_true rfl⟩ ⟨Nat.zero_le _, Nat.zero_le _⟩ (Nat.le_of_ble_eq_true rfl) k_a1 r_x11 r_x4 r_x57 h dL_acts_659 (fun x60 M61 r_x60 _ _ h B => ?_)
                            have o_M61 := B.2.2
                            refine lv_istore (lv' := [(12, .int (jI x60)), (11, .int (jI x58)), (10, .int (jI x57)), (9, .int (jI x28)), (8, .int (jI x11)), (7, .int (jI x6)), (6, .int (jI x4)), (0, .ref (jD G a1))]) C.1 C.2.1 dL_acts_662 hl (by decide) rfl (fun ls hl => ?_)
                            refine lv_iload C.1 C.2.1 dL_acts_664 (lv_at hl 0 rfl) ?_
                            refine lv_iload C.1 C.2.1 dL_acts_666 (lv_at hl 4 rfl) ?_
                            refine jr_iconst C dL_acts_668 ?_
                            obtain ⟨j669_63, hj669_63, h⟩ := jx_join (P := fun j669_63 : Int → Prop => ∀ (x62 : Int) (H : Heap) (locs : List Loc) (ls : Array Slot), j669_63 x62 → jR x62 → Hp G M61 s.heap H locs → lv_has ls 18 [(12, .int (jI x60)), (11, .int (jI x58)), (6, .int (jI x4)), (0, .ref (jD G a1))] → W p l e (rmm 9 232) s m args below meth c H locs 0 0 (MQ below (qZ G k) args s 0 0 (gA G)) (F0 m 706 ls [.int (jI x62), .int (jI x60)])) h (by
                              intro x62 H locs ls h r_x62 B hl
                              refine jr_icmp_ne (tgt := 743) C r_x60 r_x62 h dL_acts_706 (by decide) (fun hc706 h => ?_) (fun hc706 h => ?_)
                              · refine lv_iload C.1 C.2.1 dL_acts_709 (lv_at hl 0 rfl) ?_
                                refine jr_if_lt (tgt := 739) C r_x60 h dL_acts_711 (by decide) (fun hc711 h => ?_) (fun hc711 h => ?_)
                                · refine jr_iconst C dL_acts_739 ?_
                                  refine lv_goto (tgt := 744) C.1 C.2.1 dL_acts_740 (by decide) ?_
                                  exact jr_zret C B hr hlocks (Or.inr rfl) h dL_acts_744
                                · refine lv_iload C.1 C.2.1 dL_acts_714 (lv_at hl 0 rfl) ?_
                                  refine jr_iconst C dL_acts_716 ?_
                                  refine jr_icmp_lt (tgt := 743) C r_x60 (jkc rfl) h dL_acts_717 (by decide) (fun hc717 h => ?_) (fun hc717 h => ?_)
                                  · refine jr_iconst C dL_acts_743 ?_
                                    exact jr_zret C B hr hlocks (Or.inl rfl) h dL_acts_744
                                  · refine lv_iload C.1 C.2.1 dL_acts_720 (lv_at hl 0 rfl) ?_
                                    refine jr_iconst C dL_acts_722 ?_
                                    refine jr_icmp_gt (tgt := 743) C r_x60 (jkc rfl) h dL_acts_723 (by decide) (fun hc723 h => ?_) (fun hc723 h => ?_)
                                    · refine lv_aload_n C.1 C.2.1 dL_acts_726 rfl (lv_at hl 3 rfl) ?_
                                      refine lv_iload C.1 C.2.1 dL_acts_727 (lv_at hl 2 rfl) ?_
                                      refine cl_X6_lines C hl.1 B q_323 ⟨Nat.le_of_ble_eq_true rfl, Nat.le_of_ble_eq_true rfl⟩ ⟨Nat.zero_le _, Nat.zero_le _⟩ (Nat.le_of_ble_eq_true rfl) k_a1 r_x4 h dL_acts_729 (fun x64 r_x64 _ _ h B => ?_)
                                      refine lv_iload C.1 C.2.1 dL_acts_732 (lv_at hl 1 rfl) ?_
                                      refine jr_iconst C dL_acts_734 ?_
                                      refine jr_isub C dL_acts_735 ?_
                                      refine jr_icmp_ne (tgt := 743) C r_x64 (jW_R _) h dL_acts_736 (by decide) (fun hc736 h => ?_) (fun hc736 h => ?_)
                                      · refine jr_iconst C dL_acts_739 ?_
                                        refine lv_goto (tgt := 744) C.1 C.2.1 dL_acts_740 (by decide) ?_
                                        exact jr_zret C B hr hlocks (Or.inr rfl) h dL_acts_744
                                      · refine jr_iconst C dL_acts_743 ?_
                                        exact jr_zret C B hr hlocks (Or.inl rfl) h dL_acts_744
                                    · refine jr_iconst C dL_acts_743 ?_
                                      exact jr_zret C B hr hlocks (Or.inl rfl) h dL_acts_744
                              · refine jr_iconst C dL_acts_743 ?_
                                exact jr_zret C B hr hlocks (Or.inl rfl) h dL_acts_744)
                            refine jr_icmp_gt (tgt := 689) C r_x11 (jkc rfl) h dL_acts_669 (by decide) (fun hc669 h => ?_) (fun hc669 h => ?_)
                            · refine lv_iload C.1 C.2.1 dL_acts_672 (lv_at hl 5 rfl) ?_
                              refine jr_if_eq (tgt := 689) C (zR z_x6) h dL_acts_674 (by decide) (fun hc674 h => ?_) (fun hc674 h => ?_)
                              · refine jr_ldc (n := -1000001) C q_315 (by decide) dL_acts_689 ?_
                                refine lv_goto (tgt := 706) C.1 C.2.1 dL_acts_691 (by decide) ?_
                                exact hj669_63 _ _ _ _ h (jkc rfl) B (lv_sub hl [0, 1, 6, 7] rfl)
                              · refine lv_iload C.1 C.2.1 dL_acts_677 (lv_at hl 2 rfl) ?_
                                refine jr_if_lt (tgt := 689) C r_x57 h dL_acts_679 (by decide) (fun hc679 h => ?_) (fun hc679 h => ?_)
                                · refine jr_ldc (n := -1000001) C q_315 (by decide) dL_acts_689 ?_
                                  refine lv_goto (tgt := 706) C.1 C.2.1 dL_acts_691 (by decide) ?_
                                  exact hj669_63 _ _ _ _ h (jkc rfl) B (lv_sub hl [0, 1, 6, 7] rfl)
                                · refine lv_iload C.1 C.2.1 dL_acts_682 (lv_at hl 2 rfl) ?_
                                  refine lv_iload C.1 C.2.1 dL_acts_684 (lv_at hl 1 rfl) ?_
                                  refine jr_icmp_lt (tgt := 694) C r_x57 r_x58 h dL_acts_686 (by decide) (fun hc686 h => ?_) (fun hc686 h => ?_)
                                  · refine lv_iload C.1 C.2.1 dL_acts_694 (lv_at hl 3 rfl) ?_
                                    refine jr_if_eq (tgt := 704) C (zR z_x28) h dL_acts_696 (by decide) (fun hc696 h => ?_) (fun hc696 h => ?_)
                                    · refine lv_iload C.1 C.2.1 dL_acts_704 (lv_at hl 0 rfl) ?_
                                      exact hj669_63 _ _ _ _ h r_x60 B (lv_sub hl [0, 1, 6, 7] rfl)
                                    · refine jr_ldc (n := -1000006) C q_511 (by decide) dL_acts_699 ?_
                                      refine lv_goto (tgt := 706) C.1 C.2.1 dL_acts_701 (by decide) ?_
                                      exact hj669_63 _ _ _ _ h (jkc rfl) B (lv_sub hl [0, 1, 6, 7] rfl)
                                  · refine jr_ldc (n := -1000001) C q_315 (by decide) dL_acts_689 ?_
                                    refine lv_goto (tgt := 706) C.1 C.2.1 dL_acts_691 (by decide) ?_
                                    exact hj669_63 _ _ _ _ h (jkc rfl) B (lv_sub hl [0, 1, 6, 7] rfl)
                            · refine jr_ldc (n := -1000001) C q_315 (by decide) dL_acts_689 ?_
                              refine lv_goto (tgt := 706) C.1 C.2.1 dL_acts_691 (by decide) ?_
                              exact hj669_63 _ _ _ _ h (jkc rfl) B (lv_sub hl [0, 1, 6, 7] rfl))
                          refine jr_if_eq (tgt := 649) C (zR z_x6) h dL_acts_637 (by decide) (fun hc637 h => ?_) (fun hc637 h => ?_)
                          · refine jr_iconst C dL_acts_649 ?_
                            exact hj637_59 _ _ _ _ h (jkc rfl) B (lv_sub hl [0, 1, 3, 4, 5, 8] rfl)
                          · refine lv_aload_n C.1 C.2.1 dL_acts_640 rfl (lv_at hl 8 rfl) ?_
                            refine lv_iload C.1 C.2.1 dL_acts_641 (lv_at hl 5 rfl) ?_
                            refine cl_X6_lines C hl.1 B q_323 ⟨Nat.le_of_ble_eq_true rfl, Nat.le_of_ble_eq_true rfl⟩ ⟨Nat.zero_le _, Nat.zero_le _⟩ (Nat.le_of_ble_eq_true rfl) k_a1 r_x4 h dL_acts_643 (fun x65 r_x65 _ _ h B => ?_)
                            refine lv_goto (tgt := 650) C.1 C.2.1 dL_acts_646 (by decide) ?_
                            exact hj637_59 _ _ _ _ h r_x65 B (lv_sub hl [0, 1, 3, 4, 5, 8] rfl)
                        · refine lv_iload_n C.1 C.2.1 dL_acts_745 rfl (lv_at hl 6 rfl) ?_
                          refine jr_bipush C dL_acts_746 (by decide) ?_
                          refine jr_icmp_ne (tgt := 859) C r_x1 (jkc rfl) h dL_acts_748 (by decide) (fun hc748 h => ?_) (fun hc748 h => ?_)
                          · refine lv_iload_n C.1 C.2.1 dL_acts_751 rfl (lv_at hl 1 rfl) ?_
                            refine jr_iconst C dL_acts_752 ?_
                            refine cl_L_low C hl.1 B q_220 ⟨Nat.le_of_ble_eq_true rfl, Nat.le_of_ble_eq_true rfl⟩ ⟨Nat.zero_le _, Nat.zero_le _⟩ (Nat.le_of_ble_eq_true rfl) r_x12 (jkc rfl) h dL_acts_753 (fun x66 r_x66 _ _ h B => ?_)
                            refine lv_istore (lv' := [(10, .int (jI x66)), (9, .int (jI x28)), (2, .int (jI x12)), (8, .int (jI x11)), (7, .int (jI x6)), (6, .int (jI x4)), (4, .int (jI x2)), (3, .int (jI x1)), (0, .ref (jD G a1))]) C.1 C.2.1 dL_acts_756 hl (by decide) rfl (fun ls hl => ?_)
                            refine lv_iload_n C.1 C.2.1 dL_acts_758 rfl (lv_at hl 2 rfl) ?_
                            refine jr_iconst C dL_acts_759 ?_
                            refine jr_ishr C dL_acts_760 ?_
                            refine jr_iconst C dL_acts_761 ?_
                            refine cl_L_low C hl.1 B q_220 ⟨Nat.le_of_ble_eq_true rfl, Nat.le_of_ble_eq_true rfl⟩ ⟨Nat.zero_le _, Nat.zero_le _⟩ (Nat.le_of_ble_eq_true rfl) (jShr_R _ _) (jkc rfl) h dL_acts_762 (fun x67 r_x67 _ _ h B => ?_)
                            obtain ⟨j765_69, hj765_69, h⟩ := jx_join (P := fun j765_69 : Int → Prop => ∀ (x68 : Int) (H : Heap) (locs : List Loc) (ls : Array Slot), j765_69 x68 → (x68 = 0 ∨ x68 = 1) → Hp G M s.heap H locs → lv_has ls 18 [(10, .int (jI x66)), (0, .ref (jD G a1))] → W p l e (rmm 9 232) s m args below meth c H locs 0 0 (MQ below (qZ G k) args s 0 0 (gA G)) (F0 m 773 ls [.int (jI x68)])) h (by
                              intro x68 H locs ls h z_x68 B hl
                              refine lv_istore (lv' := [(11, .int (jI x68)), (10, .int (jI x66)), (0, .ref (jD G a1))]) C.1 C.2.1 dL_acts_773 hl (by decide) rfl (fun ls hl => ?_)
                              refine lv_aload_n C.1 C.2.1 dL_acts_775 rfl (lv_at hl 2 rfl) ?_
                              refine lv_iload C.1 C.2.1 dL_acts_776 (lv_at hl 1 rfl) ?_
                              refine lv_iload C.1 C.2.1 dL_acts_778 (lv_at hl 0 rfl) ?_
                              refine cl_X6_associate C hl.1 B q_671 ⟨Nat.le_of_ble_eq_true rfl, Nat.le_of_ble_eq_true rfl⟩ ⟨Nat.zero_le _, Nat.zero_le _⟩ (Nat.le_of_ble_eq_true rfl) k_a1 r_x66 z_x68 h dL_acts_780 (fun x70 M71 r_x70 _ _ h B => ?_)
                              have o_M71 := B.2.2
                              refine lv_istore (lv' := [(12, .int (jI x70)), (11, .int (jI x68)), (10, .int (jI x66)), (0, .ref (jD G a1))]) C.1 C.2.1 dL_acts_783 hl (by decide) rfl (fun ls hl => ?_)
                              refine lv_iload C.1 C.2.1 dL_acts_785 (lv_at hl 2 rfl) ?_
                              refine jr_iconst C dL_acts_787 ?_
                              refine jr_icmp_ne (tgt := 806) C r_x66 (jkc rfl) h dL_acts_788 (by decide) (fun hc788 h => ?_) (fun hc788 h => ?_)
                              · refine lv_iload C.1 C.2.1 dL_acts_791 (lv_at hl 0 rfl) ?_
                                refine jr_ldc (n := -1000001) C q_315 (by decide) dL_acts_793 ?_
                                refine jr_icmp_ne (tgt := 802) C r_x70 (jkc rfl) h dL_acts_795 (by decide) (fun hc795 h => ?_) (fun hc795 h => ?_)
                                · refine jr_iconst C dL_acts_798 ?_
                                  refine lv_goto (tgt := 858) C.1 C.2.1 dL_acts_799 (by decide) ?_
                                  exact jr_zret C B hr hlocks (Or.inr rfl) h dL_acts_858
                                · refine jr_iconst C dL_acts_802 ?_
                                  refine lv_goto (tgt := 858) C.1 C.2.1 dL_acts_803 (by decide) ?_
                                  exact jr_zret C B hr hlocks (Or.inl rfl) h dL_acts_858
                              · refine lv_aload_n C.1 C.2.1 dL_acts_806 rfl (lv_at hl 3 rfl) ?_
                                refine lv_iload C.1 C.2.1 dL_acts_807 (lv_at hl 2 rfl) ?_
                                refine cl_X6_associated C hl.1 B q_238 ⟨Nat.le_of_ble_eq_true rfl, Nat.le_of_ble_eq_true rfl⟩ ⟨Nat.zero_le _, Nat.zero_le _⟩ (Nat.le_of_ble_eq_true rfl) k_a1 r_x66 h dL_acts_809 (fun x72 r_x72 _ _ h B => ?_)
                                refine lv_iload C.1 C.2.1 dL_acts_812 (lv_at hl 1 rfl) ?_
                                obtain ⟨j814_74, hj814_74, h⟩ := jx_join (P := fun j814_74 : Int → Prop => ∀ (x73 : Int) (H : Heap) (locs : List Loc) (ls : Array Slot), j814_74 x73 → (x73 = 0 ∨ x73 = 1) → Hp G M71 s.heap H locs → lv_has ls 18 [(12, .int (jI x70)), (0, .ref (jD G a1))] → W p l e (rmm 9 232) s m args below meth c H locs 0 0 (MQ below (qZ G k) args s 0 0 (gA G)) (F0 m 822 ls [.int (jI x73), .int (jI x72)])) h (by
                                  intro x73 H locs ls h z_x73 B hl
                                  refine jr_icmp_ne (tgt := 857) C r_x72 (zR z_x73) h dL_acts_822 (by decide) (fun hc822 h => ?_) (fun hc822 h => ?_)
                                  · refine lv_iload C.1 C.2.1 dL_acts_825 (lv_at hl 0 rfl) ?_
                                    refine lv_aload_n C.1 C.2.1 dL_acts_827 rfl (lv_at hl 1 rfl) ?_
                                    refine jr_iconst C dL_acts_828 ?_
                                    refine cl_X6_associated C hl.1 B q_238 ⟨Nat.le_of_ble_eq_true rfl, Nat.le_of_ble_eq_true rfl⟩ ⟨Nat.zero_le _, Nat.zero_le _⟩ (Nat.le_of_ble_eq_true rfl) k_a1 (jkc rfl) h dL_acts_829 (fun x75 r_x75 _ _ h B => ?_)
                                    refine lv_aload_n C.1 C.2.1 dL_acts_832 rfl (lv_at hl 1 rfl) ?_
                                    refine jr_iconst C dL_acts_833 ?_
                                    refine cl_X6_associated C hl.1 B q_238 ⟨Nat.le_of_ble_eq_true rfl, Nat.le_of_ble_eq_true rfl⟩ ⟨Nat.zero_le _, Nat.zero_le _⟩ (Nat.le_of_ble_eq_true rfl) k_a1 (jkc rfl) h dL_acts_834 (fun x76 r_x76 _ _ h B => ?_)
                                    refine jr_iadd C dL_acts_837 ?_
                                    refine lv_aload_n C.1 C.2.1 dL_acts_838 rfl (lv_at hl 1 rfl) ?_
                                    refine jr_iconst C dL_acts_839 ?_
                                    refine cl_X6_associated C hl.1 B q_238 ⟨Nat.le_of_ble_eq_true rfl, Nat.le_of_ble_eq_true rfl⟩ ⟨Nat.zero_le _, Nat.zero_le _⟩ (Nat.le_of_ble_eq_true rfl) k_a1 (jkc rfl) h dL_acts_840 (fun x77 r_x77 _ _ h B => ?_)
                                    refine jr_iadd C dL_acts_843 ?_
                                    refine lv_aload_n C.1 C.2.1 dL_acts_844 rfl (lv_at hl 1 rfl) ?_
                                    refine jr_iconst C dL_acts_845 ?_
                                    refine cl_X6_associated C hl.1 B q_238 ⟨Nat.le_of_ble_eq_true rfl, Nat.le_of_ble_eq_true rfl⟩ ⟨Nat.zero_le _, Nat.zero_le _⟩ (Nat.le_of_ble_eq_true rfl) k_a1 (jkc rfl) h dL_acts_846 (fun x78 r_x78 _ _ h B => ?_)
                                    refine jr_iadd C dL_acts_849 ?_
                                    refine jr_icmp_ne (tgt := 857) C r_x70 (jW_R _) h dL_acts_850 (by decide) (fun hc850 h => ?_) (fun hc850 h => ?_)
                                    · refine jr_iconst C dL_acts_853 ?_
                                      refine lv_goto (tgt := 858) C.1 C.2.1 dL_acts_854 (by decide) ?_
                                      exact jr_zret C B hr hlocks (Or.inr rfl) h dL_acts_858
                                    · refine jr_iconst C dL_acts_857 ?_
                                      exact jr_zret C B hr hlocks (Or.inl rfl) h dL_acts_858
                                  · refine jr_iconst C dL_acts_857 ?_
                                    exact jr_zret C B hr hlocks (Or.inl rfl) h dL_acts_858)
                                refine jr_if_eq (tgt := 821) C (zR z_x68) h dL_acts_814 (by decide) (fun hc814 h => ?_) (fun hc814 h => ?_)
                                · refine jr_iconst C dL_acts_821 ?_
                                  exact hj814_74 _ _ _ _ h (Or.inl rfl) B (lv_sub hl [0, 3] rfl)
                                · refine jr_iconst C dL_acts_817 ?_
                                  refine lv_goto (tgt := 822) C.1 C.2.1 dL_acts_818 (by decide) ?_
                                  exact hj814_74 _ _ _ _ h (Or.inr rfl) B (lv_sub hl [0, 3] rfl))
                            refine jr_if_ne (tgt := 772) C r_x67 h dL_acts_765 (by decide) (fun hc765 h => ?_) (fun hc765 h => ?_)
                            · refine jr_iconst C dL_acts_768 ?_
                              refine lv_goto (tgt := 773) C.1 C.2.1 dL_acts_769 (by decide) ?_
                              exact hj765_69 _ _ _ _ h (Or.inr rfl) B (lv_sub hl [0, 8] rfl)
                            · refine jr_iconst C dL_acts_772 ?_
                              exact hj765_69 _ _ _ _ h (Or.inl rfl) B (lv_sub hl [0, 8] rfl)
                          · refine lv_iload_n C.1 C.2.1 dL_acts_859 rfl (lv_at hl 6 rfl) ?_
                            refine jr_bipush C dL_acts_860 (by decide) ?_
                            refine jr_icmp_ge (tgt := 1072) C r_x1 (jkc rfl) h dL_acts_862 (by decide) (fun hc862 h => ?_) (fun hc862 h => ?_)
                            · refine lv_iload_n C.1 C.2.1 dL_acts_865 rfl (lv_at hl 1 rfl) ?_
                              refine jr_bipush C dL_acts_866 (by decide) ?_
                              refine cl_L_low C hl.1 B q_220 ⟨Nat.le_of_ble_eq_true rfl, Nat.le_of_ble_eq_true rfl⟩ ⟨Nat.zero_le _, Nat.zero_le _⟩ (Nat.le_of_ble_eq_true rfl) r_x12 (jkc rfl) h dL_acts_868 (fun x79 r_x79 _ _ h B => ?_)
                              refine lv_istore (lv' := [(10, .int (jI x79)), (9, .int (jI x28)), (2, .int (jI x12)), (8, .int (jI x11)), (7, .int (jI x6)), (6, .int (jI x4)), (4, .int (jI x2)), (3, .int (jI x1)), (0, .ref (jD G a1))]) C.1 C.2.1 dL_acts_871 hl (by decide) rfl (fun ls hl => ?_)
                              refine lv_iload_n C.1 C.2.1 dL_acts_873 rfl (lv_at hl 2 rfl) ?_
                              refine jr_iconst C dL_acts_874 ?_
                              refine jr_ishr C dL_acts_875 ?_
                              refine jr_bipush C dL_acts_876 (by decide) ?_
                              refine cl_L_low C hl.1 B q_220 ⟨Nat.le_of_ble_eq_true rfl, Nat.le_of_ble_eq_true rfl⟩ ⟨Nat.zero_le _, Nat.zero_le _⟩ (Nat.le_of_ble_eq_true rfl) (jShr_R _ _) (jkc rfl) h dL_acts_878 (fun x80 r_x80 _ _ h B => ?_)
                              refine lv_istore (lv' := [(11, .int (jI x80)), (10, .int (jI x79)), (9, .int (jI x28)), (2, .int (jI x12)), (8, .int (jI x11)), (7, .int (jI x6)), (6, .int (jI x4)), (4, .int (jI x2)), (3, .int (jI x1)), (0, .ref (jD G a1))]) C.1 C.2.1 dL_acts_881 hl (by decide) rfl (fun ls hl => ?_)
                              refine lv_iload_n C.1 C.2.1 dL_acts_883 rfl (lv_at hl 3 rfl) ?_
                              refine jr_bipush C dL_acts_884 (by decide) ?_
                              refine jr_ishr C dL_acts_886 ?_
                              refine lv_iload_n C.1 C.2.1 dL_acts_887 rfl (lv_at hl 3 rfl) ?_
                              refine jr_bipush C dL_acts_888 (by decide) ?_
                              refine jr_ishr C dL_acts_890 ?_
                              refine jr_bipush C dL_acts_891 (by decide) ?_
                              refine cl_L_low C hl.1 B q_220 ⟨Nat.le_of_ble_eq_true rfl, Nat.le_of_ble_eq_true rfl⟩ ⟨Nat.zero_le _, Nat.zero_le _⟩ (Nat.le_of_ble_eq_true rfl) (jShr_R _ _) (jkc rfl) h dL_acts_893 (fun x81 r_x81 _ _ h B => ?_)
                              obtain ⟨j896_83, hj896_83, h⟩ := jx_join (P := fun j896_83 : Int → Prop => ∀ (x82 : Int) (H : Heap) (locs : List Loc) (ls : Array Slot), j896_83 x82 → jR x82 → Hp G M s.heap H locs → lv_has ls 18 [(11, .int (jI x80)), (10, .int (jI x79)), (2, .int (jI x12)), (0, .ref (jD G a1))] → W p l e (rmm 9 232) s m args below meth c H locs 0 0 (MQ below (qZ G k) args s 0 0 (gA G)) (F0 m 904 ls [.int (jI x82), .int (jI (jShr x12 6))])) h (by
                                intro x82 H locs ls h r_x82 B hl
                                refine cl_L_low C hl.1 B q_220 ⟨Nat.le_of_ble_eq_true rfl, Nat.le_of_ble_eq_true rfl⟩ ⟨Nat.zero_le _, Nat.zero_le _⟩ (Nat.le_of_ble_eq_true rfl) (jShr_R _ _) r_x82 h dL_acts_904 (fun x84 r_x84 _ _ h B => ?_)
                                refine lv_istore (lv' := [(12, .int (jI x84)), (11, .int (jI x80)), (10, .int (jI x79)), (2, .int (jI x12)), (0, .ref (jD G a1))]) C.1 C.2.1 dL_acts_907 hl (by decide) rfl (fun ls hl => ?_)
                                refine lv_iload_n C.1 C.2.1 dL_acts_909 rfl (lv_at hl 3 rfl) ?_
                                refine jr_bipush C dL_acts_910 (by decide) ?_
                                refine jr_ishr C dL_acts_912 ?_
                                refine lv_iload_n C.1 C.2.1 dL_acts_913 rfl (lv_at hl 3 rfl) ?_
                                refine jr_bipush C dL_acts_914 (by decide) ?_
                                refine jr_ishr C dL_acts_916 ?_
                                refine jr_bipush C dL_acts_917 (by decide) ?_
                                refine cl_L_low C hl.1 B q_220 ⟨Nat.le_of_ble_eq_true rfl, Nat.le_of_ble_eq_true rfl⟩ ⟨Nat.zero_le _, Nat.zero_le _⟩ (Nat.le_of_ble_eq_true rfl) (jShr_R _ _) (jkc rfl) h dL_acts_919 (fun x85 r_x85 _ _ h B => ?_)
                                obtain ⟨j922_87, hj922_87, h⟩ := jx_join (P := fun j922_87 : Int → Prop => ∀ (x86 : Int) (H : Heap) (locs : List Loc) (ls : Array Slot), j922_87 x86 → jR x86 → Hp G M s.heap H locs → lv_has ls 18 [(12, .int (jI x84)), (11, .int (jI x80)), (10, .int (jI x79)), (0, .ref (jD G a1))] → W p l e (rmm 9 232) s m args below meth c H locs 0 0 (MQ below (qZ G k) args s 0 0 (gA G)) (F0 m 930 ls [.int (jI x86), .int (jI (jShr x12 9))])) h (by
                                  intro x86 H locs ls h r_x86 B hl
                                  refine cl_L_low C hl.1 B q_220 ⟨Nat.le_of_ble_eq_true rfl, Nat.le_of_ble_eq_true rfl⟩ ⟨Nat.zero_le _, Nat.zero_le _⟩ (Nat.le_of_ble_eq_true rfl) (jShr_R _ _) r_x86 h dL_acts_930 (fun x88 r_x88 _ _ h B => ?_)
                                  refine lv_istore (lv' := [(13, .int (jI x88)), (12, .int (jI x84)), (11, .int (jI x80)), (10, .int (jI x79)), (0, .ref (jD G a1))]) C.1 C.2.1 dL_acts_933 hl (by decide) rfl (fun ls hl => ?_)
                                  refine lv_iload C.1 C.2.1 dL_acts_935 (lv_at hl 3 rfl) ?_
                                  refine jr_bipush C dL_acts_937 (by decide) ?_
                                  obtain ⟨j939_90, hj939_90, h⟩ := jx_join (P := fun j939_90 : Int → Prop => ∀ (x89 : Int) (H : Heap) (locs : List Loc) (ls : Array Slot), j939_90 x89 → (x89 = 0 ∨ x89 = 1) → Hp G M s.heap H locs → lv_has ls 18 [(13, .int (jI x88)), (12, .int (jI x84)), (11, .int (jI x80)), (10, .int (jI x79)), (0, .ref (jD G a1))] → W p l e (rmm 9 232) s m args below meth c H locs 0 0 (MQ below (qZ G k) args s 0 0 (gA G)) (F0 m 959 ls [.int (jI x89)])) h (by
                                    intro x89 H locs ls h z_x89 B hl
                                    refine lv_istore (lv' := [(14, .int (jI x89)), (13, .int (jI x88)), (12, .int (jI x84)), (11, .int (jI x80)), (10, .int (jI x79)), (0, .ref (jD G a1))]) C.1 C.2.1 dL_acts_959 hl (by decide) rfl (fun ls hl => ?_)
                                    refine lv_iload C.1 C.2.1 dL_acts_961 (lv_at hl 4 rfl) ?_
                                    refine jr_bipush C dL_acts_963 (by decide) ?_
                                    obtain ⟨j965_92, hj965_92, h⟩ := jx_join (P := fun j965_92 : Int → Prop => ∀ (x91 : Int) (H : Heap) (locs : List Loc) (ls : Array Slot), j965_92 x91 → jR x91 → Hp G M s.heap H locs → lv_has ls 18 [(14, .int (jI x89)), (13, .int (jI x88)), (12, .int (jI x84)), (11, .int (jI x80)), (10, .int (jI x79)), (0, .ref (jD G a1))] → W p l e (rmm 9 232) s m args below meth c H locs 0 0 (MQ below (qZ G k) args s 0 0 (gA G)) (F0 m 979 ls [.int (jI x91)])) h (by
                                      intro x91 H locs ls h r_x91 B hl
                                      refine lv_istore (lv' := [(15, .int (jI x91)), (14, .int (jI x89)), (13, .int (jI x88)), (12, .int (jI x84)), (11, .int (jI x80)), (10, .int (jI x79)), (0, .ref (jD G a1))]) C.1 C.2.1 dL_acts_979 hl (by decide) rfl (fun ls hl => ?_)
                                      refine lv_aload_n C.1 C.2.1 dL_acts_981 rfl (lv_at hl 6 rfl) ?_
                                      refine lv_iload C.1 C.2.1 dL_acts_982 (lv_at hl 5 rfl) ?_
                                      refine lv_iload C.1 C.2.1 dL_acts_984 (lv_at hl 4 rfl) ?_
                                      refine lv_iload C.1 C.2.1 dL_acts_986 (lv_at hl 3 rfl) ?_
                                      refine lv_iload C.1 C.2.1 dL_acts_988 (lv_at hl 2 rfl) ?_
                                      refine cl_X6_define C hl.1 B q_679 ⟨Nat.le_of_ble_eq_true rfl, Nat.le_of_ble_eq_true rfl⟩ ⟨Nat.zero_le _, Nat.zero_le _⟩ (Nat.le_of_ble_eq_true rfl) k_a1 r_x79 r_x80 r_x84 r_x88 h dL_acts_990 (fun x93 M94 r_x93 _ _ h B => ?_)
                                      have o_M94 := B.2.2
                                      refine lv_iload C.1 C.2.1 dL_acts_993 (lv_at hl 1 rfl) ?_
                                      obtain ⟨j995_96, hj995_96, h⟩ := jx_join (P := fun j995_96 : Int → Prop => ∀ (x95 : Int) (H : Heap) (locs : List Loc) (ls : Array Slot), j995_96 x95 → jR x95 → Hp G M94 s.heap H locs → lv_has ls 18 [(14, .int (jI x89)), (13, .int (jI x88)), (12, .int (jI x84)), (11, .int (jI x80)), (10, .int (jI x79)), (0, .ref (jD G a1))] → W p l e (rmm 9 232) s m args below meth c H locs 0 0 (MQ below (qZ G k) args s 0 0 (gA G)) (F0 m 1016 ls [.int (jI x95), .int (jI x93)])) h (by
                                        intro x95 H locs ls h r_x95 B hl
                                        refine jr_icmp_ne (tgt := 1070) C r_x93 r_x95 h dL_acts_1016 (by decide) (fun hc1016 h => ?_) (fun hc1016 h => ?_)
                                        · refine lv_iload C.1 C.2.1 dL_acts_1019 (lv_at hl 0 rfl) ?_
                                          refine jr_if_ne (tgt := 1066) C (zR z_x89) h dL_acts_1021 (by decide) (fun hc1021 h => ?_) (fun hc1021 h => ?_)
                                          · refine lv_iload C.1 C.2.1 dL_acts_1024 (lv_at hl 3 rfl) ?_
                                            refine jr_iconst C dL_acts_1026 ?_
                                            refine jr_icmp_eq (tgt := 1066) C r_x80 (jkc rfl) h dL_acts_1027 (by decide) (fun hc1027 h => ?_) (fun hc1027 h => ?_)
                                            · refine jr_iconst C dL_acts_1066 ?_
                                              refine lv_goto (tgt := 1071) C.1 C.2.1 dL_acts_1067 (by decide) ?_
                                              exact jr_zret C B hr hlocks (Or.inr rfl) h dL_acts_1071
                                            · refine lv_aload_n C.1 C.2.1 dL_acts_1030 rfl (lv_at hl 5 rfl) ?_
                                              refine lv_iload C.1 C.2.1 dL_acts_1031 (lv_at hl 4 rfl) ?_
                                              refine jr_iconst C dL_acts_1033 ?_
                                              refine cl_X6_column C hl.1 B q_229 ⟨Nat.le_of_ble_eq_true rfl, Nat.le_of_ble_eq_true rfl⟩ ⟨Nat.zero_le _, Nat.zero_le _⟩ (Nat.le_of_ble_eq_true rfl) k_a1 r_x79 (jkc rfl) h dL_acts_1034 (fun x97 r_x97 _ _ h B => ?_)
                                              refine lv_iload C.1 C.2.1 dL_acts_1037 (lv_at hl 3 rfl) ?_
                                              refine jr_icmp_ne (tgt := 1070) C r_x97 r_x80 h dL_acts_1039 (by decide) (fun hc1039 h => ?_) (fun hc1039 h => ?_)
                                              · refine lv_aload_n C.1 C.2.1 dL_acts_1042 rfl (lv_at hl 5 rfl) ?_
                                                refine lv_iload C.1 C.2.1 dL_acts_1043 (lv_at hl 4 rfl) ?_
                                                refine jr_iconst C dL_acts_1045 ?_
                                                refine cl_X6_column C hl.1 B q_229 ⟨Nat.le_of_ble_eq_true rfl, Nat.le_of_ble_eq_true rfl⟩ ⟨Nat.zero_le _, Nat.zero_le _⟩ (Nat.le_of_ble_eq_true rfl) k_a1 r_x79 (jkc rfl) h dL_acts_1046 (fun x98 r_x98 _ _ h B => ?_)
                                                refine lv_iload C.1 C.2.1 dL_acts_1049 (lv_at hl 2 rfl) ?_
                                                refine jr_icmp_ne (tgt := 1070) C r_x98 r_x84 h dL_acts_1051 (by decide) (fun hc1051 h => ?_) (fun hc1051 h => ?_)
                                                · refine lv_aload_n C.1 C.2.1 dL_acts_1054 rfl (lv_at hl 5 rfl) ?_
                                                  refine lv_iload C.1 C.2.1 dL_acts_1055 (lv_at hl 4 rfl) ?_
                                                  refine jr_iconst C dL_acts_1057 ?_
                                                  refine cl_X6_column C hl.1 B q_229 ⟨Nat.le_of_ble_eq_true rfl, Nat.le_of_ble_eq_true rfl⟩ ⟨Nat.zero_le _, Nat.zero_le _⟩ (Nat.le_of_ble_eq_true rfl) k_a1 r_x79 (jkc rfl) h dL_acts_1058 (fun x99 r_x99 _ _ h B => ?_)
                                                  refine lv_iload C.1 C.2.1 dL_acts_1061 (lv_at hl 1 rfl) ?_
                                                  refine jr_icmp_ne (tgt := 1070) C r_x99 r_x88 h dL_acts_1063 (by decide) (fun hc1063 h => ?_) (fun hc1063 h => ?_)
                                                  · refine jr_iconst C dL_acts_1066 ?_
                                                    refine lv_goto (tgt := 1071) C.1 C.2.1 dL_acts_1067 (by decide) ?_
                                                    exact jr_zret C B hr hlocks (Or.inr rfl) h dL_acts_1071
                                                  · refine jr_iconst C dL_acts_1070 ?_
                                                    exact jr_zret C B hr hlocks (Or.inl rfl) h dL_acts_1071
                                                · refine jr_iconst C dL_acts_1070 ?_
                                                  exact jr_zret C B hr hlocks (Or.inl rfl) h dL_acts_1071
                                              · refine jr_iconst C dL_acts_1070 ?_
                                                exact jr_zret C B hr hlocks (Or.inl rfl) h dL_acts_1071
                                          · refine jr_iconst C dL_acts_1066 ?_
                                            refine lv_goto (tgt := 1071) C.1 C.2.1 dL_acts_1067 (by decide) ?_
                                            exact jr_zret C B hr hlocks (Or.inr rfl) h dL_acts_1071
                                        · refine jr_iconst C dL_acts_1070 ?_
                                          exact jr_zret C B hr hlocks (Or.inl rfl) h dL_acts_1071)
                                      refine jr_if_eq (tgt := 1003) C (zR z_x89) h dL_acts_995 (by decide) (fun hc995 h => ?_) (fun hc995 h => ?_)
                                      · refine lv_iload C.1 C.2.1 dL_acts_1003 (lv_at hl 4 rfl) ?_
                                        refine jr_iconst C dL_acts_1005 ?_
                                        refine jr_icmp_ne (tgt := 1014) C r_x80 (jkc rfl) h dL_acts_1006 (by decide) (fun hc1006 h => ?_) (fun hc1006 h => ?_)
                                        · refine jr_ldc (n := -1000002) C q_314 (by decide) dL_acts_1009 ?_
                                          refine lv_goto (tgt := 1016) C.1 C.2.1 dL_acts_1011 (by decide) ?_
                                          exact hj995_96 _ _ _ _ h (jkc rfl) B (lv_sub hl [1, 2, 3, 4, 5, 6] rfl)
                                        · refine lv_iload C.1 C.2.1 dL_acts_1014 (lv_at hl 0 rfl) ?_
                                          exact hj995_96 _ _ _ _ h r_x91 B (lv_sub hl [1, 2, 3, 4, 5, 6] rfl)
                                      · refine jr_ldc (n := -1000001) C q_315 (by decide) dL_acts_998 ?_
                                        refine lv_goto (tgt := 1016) C.1 C.2.1 dL_acts_1000 (by decide) ?_
                                        exact hj995_96 _ _ _ _ h (jkc rfl) B (lv_sub hl [1, 2, 3, 4, 5, 6] rfl))
                                    refine jr_icmp_ne (tgt := 972) C r_x79 (jkc rfl) h dL_acts_965 (by decide) (fun hc965 h => ?_) (fun hc965 h => ?_)
                                    · refine jr_iconst C dL_acts_968 ?_
                                      refine lv_goto (tgt := 979) C.1 C.2.1 dL_acts_969 (by decide) ?_
                                      exact hj965_92 _ _ _ _ h (jkc rfl) B (lv_sub hl [0, 1, 2, 3, 4, 5] rfl)
                                    · refine lv_aload_n C.1 C.2.1 dL_acts_972 rfl (lv_at hl 5 rfl) ?_
                                      refine lv_iload C.1 C.2.1 dL_acts_973 (lv_at hl 4 rfl) ?_
                                      refine jr_iconst C dL_acts_975 ?_
                                      refine cl_X6_column C hl.1 B q_229 ⟨Nat.le_of_ble_eq_true rfl, Nat.le_of_ble_eq_true rfl⟩ ⟨Nat.zero_le _, Nat.zero_le _⟩ (Nat.le_of_ble_eq_true rfl) k_a1 r_x79 (jkc rfl) h dL_acts_976 (fun x100 r_x100 _ _ h B => ?_)
                                      exact hj965_92 _ _ _ _ h r_x100 B (lv_sub hl [0, 1, 2, 3, 4, 5] rfl))
                                  refine jr_icmp_eq (tgt := 954) C r_x79 (jkc rfl) h dL_acts_939 (by decide) (fun hc939 h => ?_) (fun hc939 h => ?_)
                                  · refine jr_iconst C dL_acts_954 ?_
                                    refine lv_goto (tgt := 959) C.1 C.2.1 dL_acts_955 (by decide) ?_
                                    exact hj939_90 _ _ _ _ h (Or.inr rfl) B (lv_sub hl [0, 1, 2, 3, 4] rfl)
                                  · refine lv_iload C.1 C.2.1 dL_acts_942 (lv_at hl 1 rfl) ?_
                                    refine jr_iconst C dL_acts_944 ?_
                                    refine jr_icmp_eq (tgt := 954) C r_x84 (jkc rfl) h dL_acts_945 (by decide) (fun hc945 h => ?_) (fun hc945 h => ?_)
                                    · refine jr_iconst C dL_acts_954 ?_
                                      refine lv_goto (tgt := 959) C.1 C.2.1 dL_acts_955 (by decide) ?_
                                      exact hj939_90 _ _ _ _ h (Or.inr rfl) B (lv_sub hl [0, 1, 2, 3, 4] rfl)
                                    · refine lv_iload C.1 C.2.1 dL_acts_948 (lv_at hl 0 rfl) ?_
                                      refine jr_iconst C dL_acts_950 ?_
                                      refine jr_icmp_ne (tgt := 958) C r_x88 (jkc rfl) h dL_acts_951 (by decide) (fun hc951 h => ?_) (fun hc951 h => ?_)
                                      · refine jr_iconst C dL_acts_954 ?_
                                        refine lv_goto (tgt := 959) C.1 C.2.1 dL_acts_955 (by decide) ?_
                                        exact hj939_90 _ _ _ _ h (Or.inr rfl) B (lv_sub hl [0, 1, 2, 3, 4] rfl)
                                      · refine jr_iconst C dL_acts_958 ?_
                                        exact hj939_90 _ _ _ _ h (Or.inl rfl) B (lv_sub hl [0, 1, 2, 3, 4] rfl))
                                refine jr_if_ne (tgt := 929) C r_x85 h dL_acts_922 (by decide) (fun hc922 h => ?_) (fun hc922 h => ?_)
                                · refine jr_iconst C dL_acts_925 ?_
                                  refine lv_goto (tgt := 930) C.1 C.2.1 dL_acts_926 (by decide) ?_
                                  exact hj922_87 _ _ _ _ h (jkc rfl) B (lv_sub hl [0, 1, 2, 4] rfl)
                                · refine jr_iconst C dL_acts_929 ?_
                                  exact hj922_87 _ _ _ _ h (jkc rfl) B (lv_sub hl [0, 1, 2, 4] rfl))
                              refine jr_if_ne (tgt := 903) C r_x81 h dL_acts_896 (by decide) (fun hc896 h => ?_) (fun hc896 h => ?_)
                              · refine jr_iconst C dL_acts_899 ?_
                                refine lv_goto (tgt := 904) C.1 C.2.1 dL_acts_900 (by decide) ?_
                                exact hj896_83 _ _ _ _ h (jkc rfl) B (lv_sub hl [0, 1, 3, 9] rfl)
                              · refine jr_iconst C dL_acts_903 ?_
                                exact hj896_83 _ _ _ _ h (jkc rfl) B (lv_sub hl [0, 1, 3, 9] rfl)
                            · refine lv_iload_n C.1 C.2.1 dL_acts_1072 rfl (lv_at hl 1 rfl) ?_
                              refine jr_bipush C dL_acts_1073 (by decide) ?_
                              refine cl_L_low C hl.1 B q_220 ⟨Nat.le_of_ble_eq_true rfl, Nat.le_of_ble_eq_true rfl⟩ ⟨Nat.zero_le _, Nat.zero_le _⟩ (Nat.le_of_ble_eq_true rfl) r_x12 (jkc rfl) h dL_acts_1075 (fun x101 r_x101 _ _ h B => ?_)
                              refine lv_istore (lv' := [(10, .int (jI x101)), (9, .int (jI x28)), (2, .int (jI x12)), (8, .int (jI x11)), (7, .int (jI x6)), (6, .int (jI x4)), (4, .int (jI x2)), (3, .int (jI x1)), (0, .ref (jD G a1))]) C.1 C.2.1 dL_acts_1078 hl (by decide) rfl (fun ls hl => ?_)
                              refine lv_iload_n C.1 C.2.1 dL_acts_1080 rfl (lv_at hl 7 rfl) ?_
                              refine jr_bipush C dL_acts_1081 (by decide) ?_
                              refine jr_icmp_ge (tgt := 1273) C r_x1 (jkc rfl) h dL_acts_1083 (by decide) (fun hc1083 h => ?_) (fun hc1083 h => ?_)
                              · refine lv_iload_n C.1 C.2.1 dL_acts_1086 rfl (lv_at hl 2 rfl) ?_
                                refine jr_iconst C dL_acts_1087 ?_
                                refine jr_ishr C dL_acts_1088 ?_
                                refine jr_bipush C dL_acts_1089 (by decide) ?_
                                refine cl_L_low C hl.1 B q_220 ⟨Nat.le_of_ble_eq_true rfl, Nat.le_of_ble_eq_true rfl⟩ ⟨Nat.zero_le _, Nat.zero_le _⟩ (Nat.le_of_ble_eq_true rfl) (jShr_R _ _) (jkc rfl) h dL_acts_1091 (fun x102 r_x102 _ _ h B => ?_)
                                refine lv_istore (lv' := [(11, .int (jI x102)), (10, .int (jI x101)), (9, .int (jI x28)), (2, .int (jI x12)), (8, .int (jI x11)), (7, .int (jI x6)), (6, .int (jI x4)), (4, .int (jI x2)), (3, .int (jI x1)), (0, .ref (jD G a1))]) C.1 C.2.1 dL_acts_1094 hl (by decide) rfl (fun ls hl => ?_)
                                refine lv_iload_n C.1 C.2.1 dL_acts_1096 rfl (lv_at hl 3 rfl) ?_
                                refine jr_bipush C dL_acts_1097 (by decide) ?_
                                refine jr_ishr C dL_acts_1099 ?_
                                refine jr_iconst C dL_acts_1100 ?_
                                refine cl_L_low C hl.1 B q_220 ⟨Nat.le_of_ble_eq_true rfl, Nat.le_of_ble_eq_true rfl⟩ ⟨Nat.zero_le _, Nat.zero_le _⟩ (Nat.le_of_ble_eq_true rfl) (jShr_R _ _) (jkc rfl) h dL_acts_1101 (fun x103 r_x103 _ _ h B => ?_)
                                refine lv_istore (lv' := [(12, .int (jI x103)), (11, .int (jI x102)), (10, .int (jI x101)), (9, .int (jI x28)), (2, .int (jI x12)), (8, .int (jI x11)), (7, .int (jI x6)), (6, .int (jI x4)), (4, .int (jI x2)), (3, .int (jI x1)), (0, .ref (jD G a1))]) C.1 C.2.1 dL_acts_1104 hl (by decide) rfl (fun ls hl => ?_)
                                refine lv_iload_n C.1 C.2.1 dL_acts_1106 rfl (lv_at hl 4 rfl) ?_
                                refine jr_bipush C dL_acts_1107 (by decide) ?_
                                refine jr_ishr C dL_acts_1109 ?_
                                refine lv_iload_n C.1 C.2.1 dL_acts_1110 rfl (lv_at hl 4 rfl) ?_
                                refine jr_bipush C dL_acts_1111 (by decide) ?_
                                refine jr_ishr C dL_acts_1113 ?_
                                refine jr_iconst C dL_acts_1114 ?_
                                refine cl_L_low C hl.1 B q_220 ⟨Nat.le_of_ble_eq_true rfl, Nat.le_of_ble_eq_true rfl⟩ ⟨Nat.zero_le _, Nat.zero_le _⟩ (Nat.le_of_ble_eq_true rfl) (jShr_R _ _) (jkc rfl) h dL_acts_1115 (fun x104 r_x104 _ _ h B => ?_)
                                obtain ⟨j1118_106, hj1118_106, h⟩ := jx_join (P := fun j1118_106 : Int → Prop => ∀ (x105 : Int) (H : Heap) (locs : List Loc) (ls : Array Slot), j1118_106 x105 → jR x105 → Hp G M s.heap H locs → lv_has ls 18 [(12, .int (jI x103)), (11, .int (jI x102)), (10, .int (jI x101)), (2, .int (jI x12)), (4, .int (jI x2)), (0, .ref (jD G a1))] → W p l e (rmm 9 232) s m args below meth c H locs 0 0 (MQ below (qZ G k) args s 0 0 (gA G)) (F0 m 1128 ls [.int (jI x105), .int (jI (jShr x12 8))])) h (by
                                  intro x105 H locs ls h r_x105 B hl
                                  refine cl_L_low C hl.1 B q_220 ⟨Nat.le_of_ble_eq_true rfl, Nat.le_of_ble_eq_true rfl⟩ ⟨Nat.zero_le _, Nat.zero_le _⟩ (Nat.le_of_ble_eq_true rfl) (jShr_R _ _) r_x105 h dL_acts_1128 (fun x107 r_x107 _ _ h B => ?_)
                                  refine lv_iload_n C.1 C.2.1 dL_acts_1131 rfl (lv_at hl 3 rfl) ?_
                                  refine jr_bipush C dL_acts_1132 (by decide) ?_
                                  refine jr_ishr C dL_acts_1134 ?_
                                  refine jr_iconst C dL_acts_1135 ?_
                                  refine cl_L_low C hl.1 B q_220 ⟨Nat.le_of_ble_eq_true rfl, Nat.le_of_ble_eq_true rfl⟩ ⟨Nat.zero_le _, Nat.zero_le _⟩ (Nat.le_of_ble_eq_true rfl) (jShr_R _ _) (jkc rfl) h dL_acts_1136 (fun x108 r_x108 _ _ h B => ?_)
                                  obtain ⟨j1139_110, hj1139_110, h⟩ := jx_join (P := fun j1139_110 : Int → Prop => ∀ (x109 : Int) (H : Heap) (locs : List Loc) (ls : Array Slot), j1139_110 x109 → jR x109 → Hp G M s.heap H locs → lv_has ls 18 [(12, .int (jI x103)), (11, .int (jI x102)), (10, .int (jI x101)), (2, .int (jI x12)), (4, .int (jI x2)), (0, .ref (jD G a1))] → W p l e (rmm 9 232) s m args below meth c H locs 0 0 (MQ below (qZ G k) args s 0 0 (gA G)) (F0 m 1148 ls [.int (jI x109), .int (jI x107)])) h (by
                                    intro x109 H locs ls h r_x109 B hl
                                    refine jr_isub C dL_acts_1148 ?_
                                    refine jr_nm h (jW_R _) (fun x111 h r_x111 => ?_)
                                    refine lv_istore (lv' := [(13, .int (jI x111)), (12, .int (jI x103)), (11, .int (jI x102)), (10, .int (jI x101)), (2, .int (jI x12)), (4, .int (jI x2)), (0, .ref (jD G a1))]) C.1 C.2.1 dL_acts_1149 hl (by decide) rfl (fun ls hl => ?_)
                                    refine lv_iload C.1 C.2.1 dL_acts_1151 (lv_at hl 1 rfl) ?_
                                    refine jr_iconst C dL_acts_1153 ?_
                                    obtain ⟨j1154_113, hj1154_113, h⟩ := jx_join (P := fun j1154_113 : Int → Prop => ∀ (x112 : Int) (H : Heap) (locs : List Loc) (ls : Array Slot), j1154_113 x112 → (x112 = 0 ∨ x112 = 1) → Hp G M s.heap H locs → lv_has ls 18 [(13, .int (jI x111)), (12, .int (jI x103)), (11, .int (jI x102)), (10, .int (jI x101)), (2, .int (jI x12)), (4, .int (jI x2)), (0, .ref (jD G a1))] → W p l e (rmm 9 232) s m args below meth c H locs 0 0 (MQ below (qZ G k) args s 0 0 (gA G)) (F0 m 1176 ls [.int (jI x112)])) h (by
                                      intro x112 H locs ls h z_x112 B hl
                                      refine lv_istore (lv' := [(14, .int (jI x112)), (13, .int (jI x111)), (12, .int (jI x103)), (11, .int (jI x102)), (10, .int (jI x101)), (2, .int (jI x12)), (4, .int (jI x2)), (0, .ref (jD G a1))]) C.1 C.2.1 dL_acts_1176 hl (by decide) rfl (fun ls hl => ?_)
                                      refine lv_aload_n C.1 C.2.1 dL_acts_1178 rfl (lv_at hl 7 rfl) ?_
                                      refine lv_iload C.1 C.2.1 dL_acts_1179 (lv_at hl 3 rfl) ?_
                                      refine lv_iload C.1 C.2.1 dL_acts_1181 (lv_at hl 2 rfl) ?_
                                      refine lv_iload C.1 C.2.1 dL_acts_1183 (lv_at hl 1 rfl) ?_
                                      refine lv_iload_n C.1 C.2.1 dL_acts_1185 rfl (lv_at hl 5 rfl) ?_
                                      refine jr_bipush C dL_acts_1186 (by decide) ?_
                                      refine jr_ishr C dL_acts_1188 ?_
                                      refine jr_iconst C dL_acts_1189 ?_
                                      refine cl_L_low C hl.1 B q_220 ⟨Nat.le_of_ble_eq_true rfl, Nat.le_of_ble_eq_true rfl⟩ ⟨Nat.zero_le _, Nat.zero_le _⟩ (Nat.le_of_ble_eq_true rfl) (jShr_R _ _) (jkc rfl) h dL_acts_1190 (fun x114 r_x114 _ _ h B => ?_)
                                      obtain ⟨j1193_116, hj1193_116, h⟩ := jx_join (P := fun j1193_116 : Int → Prop => ∀ (x115 : Int) (H : Heap) (locs : List Loc) (ls : Array Slot), j1193_116 x115 → (x115 = 0 ∨ x115 = 1) → Hp G M s.heap H locs → lv_has ls 18 [(14, .int (jI x112)), (11, .int (jI x102)), (10, .int (jI x101)), (4, .int (jI x2)), (0, .ref (jD G a1))] → W p l e (rmm 9 232) s m args below meth c H locs 0 0 (MQ below (qZ G k) args s 0 0 (gA G)) (F0 m 1201 ls [.int (jI x115), .int (jI x111), .int (jI x103), .int (jI x102), .ref (jD G a1)])) h (by
                                        intro x115 H locs ls h z_x115 B hl
                                        refine lv_iload C.1 C.2.1 dL_acts_1201 (lv_at hl 2 rfl) ?_
                                        refine cl_X6_select C hl.1 B q_688 ⟨Nat.le_of_ble_eq_true rfl, Nat.le_of_ble_eq_true rfl⟩ ⟨Nat.zero_le _, Nat.zero_le _⟩ (Nat.le_of_ble_eq_true rfl) k_a1 r_x102 r_x103 r_x111 z_x115 r_x101 h dL_acts_1203 (fun x117 M118 r_x117 _ _ h B => ?_)
                                        have o_M118 := B.2.2
                                        refine lv_istore (lv' := [(15, .int (jI x117)), (14, .int (jI x112)), (11, .int (jI x102)), (10, .int (jI x101)), (4, .int (jI x2)), (0, .ref (jD G a1))]) C.1 C.2.1 dL_acts_1206 hl (by decide) rfl (fun ls hl => ?_)
                                        refine lv_iload C.1 C.2.1 dL_acts_1208 (lv_at hl 0 rfl) ?_
                                        refine lv_iload C.1 C.2.1 dL_acts_1210 (lv_at hl 2 rfl) ?_
                                        refine jr_bipush C dL_acts_1212 (by decide) ?_
                                        obtain ⟨j1214_120, hj1214_120, h⟩ := jx_join (P := fun j1214_120 : Int → Prop => ∀ (x119 : Int) (H : Heap) (locs : List Loc) (ls : Array Slot), j1214_120 x119 → jR x119 → Hp G M118 s.heap H locs → lv_has ls 18 [(15, .int (jI x117)), (10, .int (jI x101)), (4, .int (jI x2)), (0, .ref (jD G a1))] → W p l e (rmm 9 232) s m args below meth c H locs 0 0 (MQ below (qZ G k) args s 0 0 (gA G)) (F0 m 1241 ls [.int (jI x119), .int (jI x117)])) h (by
                                          intro x119 H locs ls h r_x119 B hl
                                          refine jr_icmp_ne (tgt := 1271) C r_x117 r_x119 h dL_acts_1241 (by decide) (fun hc1241 h => ?_) (fun hc1241 h => ?_)
                                          · refine lv_iload C.1 C.2.1 dL_acts_1244 (lv_at hl 0 rfl) ?_
                                            refine jr_if_lt (tgt := 1267) C r_x117 h dL_acts_1246 (by decide) (fun hc1246 h => ?_) (fun hc1246 h => ?_)
                                            · refine jr_iconst C dL_acts_1267 ?_
                                              refine lv_goto (tgt := 1272) C.1 C.2.1 dL_acts_1268 (by decide) ?_
                                              exact jr_zret C B hr hlocks (Or.inr rfl) h dL_acts_1272
                                            · refine lv_iload C.1 C.2.1 dL_acts_1249 (lv_at hl 0 rfl) ?_
                                              refine lv_iload C.1 C.2.1 dL_acts_1251 (lv_at hl 2 rfl) ?_
                                              refine jr_icmp_gt (tgt := 1271) C r_x117 r_x2 h dL_acts_1253 (by decide) (fun hc1253 h => ?_) (fun hc1253 h => ?_)
                                              · refine lv_aload_n C.1 C.2.1 dL_acts_1256 rfl (lv_at hl 3 rfl) ?_
                                                refine lv_iload C.1 C.2.1 dL_acts_1257 (lv_at hl 1 rfl) ?_
                                                refine cl_X6_listSize C hl.1 B q_242 ⟨Nat.le_of_ble_eq_true rfl, Nat.le_of_ble_eq_true rfl⟩ ⟨Nat.zero_le _, Nat.zero_le _⟩ (Nat.le_of_ble_eq_true rfl) k_a1 r_x101 h dL_acts_1259 (fun x121 r_x121 _ _ h B => ?_)
                                                refine lv_iload C.1 C.2.1 dL_acts_1262 (lv_at hl 0 rfl) ?_
                                                refine jr_icmp_ne (tgt := 1271) C r_x121 r_x117 h dL_acts_1264 (by decide) (fun hc1264 h => ?_) (fun hc1264 h => ?_)
                                                · refine jr_iconst C dL_acts_1267 ?_
                                                  refine lv_goto (tgt := 1272) C.1 C.2.1 dL_acts_1268 (by decide) ?_
                                                  exact jr_zret C B hr hlocks (Or.inr rfl) h dL_acts_1272
                                                · refine jr_iconst C dL_acts_1271 ?_
                                                  exact jr_zret C B hr hlocks (Or.inl rfl) h dL_acts_1272
                                              · refine jr_iconst C dL_acts_1271 ?_
                                                exact jr_zret C B hr hlocks (Or.inl rfl) h dL_acts_1272
                                          · refine jr_iconst C dL_acts_1271 ?_
                                            exact jr_zret C B hr hlocks (Or.inl rfl) h dL_acts_1272)
                                        refine jr_icmp_eq (tgt := 1224) C r_x102 (jkc rfl) h dL_acts_1214 (by decide) (fun hc1214 h => ?_) (fun hc1214 h => ?_)
                                        · refine jr_ldc (n := -1000001) C q_315 (by decide) dL_acts_1224 ?_
                                          refine lv_goto (tgt := 1241) C.1 C.2.1 dL_acts_1226 (by decide) ?_
                                          exact hj1214_120 _ _ _ _ h (jkc rfl) B (lv_sub hl [0, 3, 4, 5] rfl)
                                        · refine lv_iload C.1 C.2.1 dL_acts_1217 (lv_at hl 3 rfl) ?_
                                          refine jr_bipush C dL_acts_1219 (by decide) ?_
                                          refine jr_icmp_ne (tgt := 1229) C r_x101 (jkc rfl) h dL_acts_1221 (by decide) (fun hc1221 h => ?_) (fun hc1221 h => ?_)
                                          · refine jr_ldc (n := -1000001) C q_315 (by decide) dL_acts_1224 ?_
                                            refine lv_goto (tgt := 1241) C.1 C.2.1 dL_acts_1226 (by decide) ?_
                                            exact hj1214_120 _ _ _ _ h (jkc rfl) B (lv_sub hl [0, 3, 4, 5] rfl)
                                          · refine lv_iload C.1 C.2.1 dL_acts_1229 (lv_at hl 1 rfl) ?_
                                            refine jr_if_eq (tgt := 1239) C (zR z_x112) h dL_acts_1231 (by decide) (fun hc1231 h => ?_) (fun hc1231 h => ?_)
                                            · refine lv_iload C.1 C.2.1 dL_acts_1239 (lv_at hl 0 rfl) ?_
                                              exact hj1214_120 _ _ _ _ h r_x117 B (lv_sub hl [0, 3, 4, 5] rfl)
                                            · refine jr_ldc (n := -1000002) C q_314 (by decide) dL_acts_1234 ?_
                                              refine lv_goto (tgt := 1241) C.1 C.2.1 dL_acts_1236 (by decide) ?_
                                              exact hj1214_120 _ _ _ _ h (jkc rfl) B (lv_sub hl [0, 3, 4, 5] rfl))
                                      refine jr_if_ne (tgt := 1200) C r_x114 h dL_acts_1193 (by decide) (fun hc1193 h => ?_) (fun hc1193 h => ?_)
                                      · refine jr_iconst C dL_acts_1196 ?_
                                        refine lv_goto (tgt := 1201) C.1 C.2.1 dL_acts_1197 (by decide) ?_
                                        exact hj1193_116 _ _ _ _ h (Or.inr rfl) B (lv_sub hl [0, 3, 4, 6, 7] rfl)
                                      · refine jr_iconst C dL_acts_1200 ?_
                                        exact hj1193_116 _ _ _ _ h (Or.inl rfl) B (lv_sub hl [0, 3, 4, 6, 7] rfl))
                                    refine jr_icmp_eq (tgt := 1171) C r_x103 (jkc rfl) h dL_acts_1154 (by decide) (fun hc1154 h => ?_) (fun hc1154 h => ?_)
                                    · refine jr_iconst C dL_acts_1171 ?_
                                      refine lv_goto (tgt := 1176) C.1 C.2.1 dL_acts_1172 (by decide) ?_
                                      exact hj1154_113 _ _ _ _ h (Or.inr rfl) B (lv_sub hl [0, 1, 2, 3, 4, 5, 6] rfl)
                                    · refine lv_iload C.1 C.2.1 dL_acts_1157 (lv_at hl 0 rfl) ?_
                                      refine jr_ldc (n := -1000000) C q_686 (by decide) dL_acts_1159 ?_
                                      refine jr_icmp_lt (tgt := 1171) C r_x111 (jkc rfl) h dL_acts_1161 (by decide) (fun hc1161 h => ?_) (fun hc1161 h => ?_)
                                      · refine jr_iconst C dL_acts_1171 ?_
                                        refine lv_goto (tgt := 1176) C.1 C.2.1 dL_acts_1172 (by decide) ?_
                                        exact hj1154_113 _ _ _ _ h (Or.inr rfl) B (lv_sub hl [0, 1, 2, 3, 4, 5, 6] rfl)
                                      · refine lv_iload C.1 C.2.1 dL_acts_1164 (lv_at hl 0 rfl) ?_
                                        refine jr_ldc (n := 1000000) C q_687 (by decide) dL_acts_1166 ?_
                                        refine jr_icmp_le (tgt := 1175) C r_x111 (jkc rfl) h dL_acts_1168 (by decide) (fun hc1168 h => ?_) (fun hc1168 h => ?_)
                                        · refine jr_iconst C dL_acts_1175 ?_
                                          exact hj1154_113 _ _ _ _ h (Or.inl rfl) B (lv_sub hl [0, 1, 2, 3, 4, 5, 6] rfl)
                                        · refine jr_iconst C dL_acts_1171 ?_
                                          refine lv_goto (tgt := 1176) C.1 C.2.1 dL_acts_1172 (by decide) ?_
                                          exact hj1154_113 _ _ _ _ h (Or.inr rfl) B (lv_sub hl [0, 1, 2, 3, 4, 5, 6] rfl))
                                  refine jr_if_ne (tgt := 1147) C r_x108 h dL_acts_1139 (by decide) (fun hc1139 h => ?_) (fun hc1139 h => ?_)
                                  · refine jr_ldc (n := 1000001) C q_685 (by decide) dL_acts_1142 ?_
                                    refine lv_goto (tgt := 1148) C.1 C.2.1 dL_acts_1144 (by decide) ?_
                                    exact hj1139_110 _ _ _ _ h (jkc rfl) B (lv_sub hl [0, 1, 2, 3, 4, 5] rfl)
                                  · refine jr_iconst C dL_acts_1147 ?_
                                    exact hj1139_110 _ _ _ _ h (jkc rfl) B (lv_sub hl [0, 1, 2, 3, 4, 5] rfl))
                                refine jr_if_ne (tgt := 1126) C r_x104 h dL_acts_1118 (by decide) (fun hc1118 h => ?_) (fun hc1118 h => ?_)
                                · refine jr_ldc (n := 2000003) C q_684 (by decide) dL_acts_1121 ?_
                                  refine lv_goto (tgt := 1128) C.1 C.2.1 dL_acts_1123 (by decide) ?_
                                  exact hj1118_106 _ _ _ _ h (jkc rfl) B (lv_sub hl [0, 1, 2, 4, 8, 10] rfl)
                                · refine jr_bipush C dL_acts_1126 (by decide) ?_
                                  exact hj1118_106 _ _ _ _ h (jkc rfl) B (lv_sub hl [0, 1, 2, 4, 8, 10] rfl)
                              · refine lv_iload_n C.1 C.2.1 dL_acts_1273 rfl (lv_at hl 7 rfl) ?_
                                refine jr_bipush C dL_acts_1274 (by decide) ?_
                                refine jr_icmp_ge (tgt := 1550) C r_x1 (jkc rfl) h dL_acts_1276 (by decide) (fun hc1276 h => ?_) (fun hc1276 h => ?_)
                                · refine lv_iload_n C.1 C.2.1 dL_acts_1279 rfl (lv_at hl 2 rfl) ?_
                                  refine jr_iconst C dL_acts_1280 ?_
                                  refine jr_ishr C dL_acts_1281 ?_
                                  refine jr_iconst C dL_acts_1282 ?_
                                  refine cl_L_low C hl.1 B q_220 ⟨Nat.le_of_ble_eq_true rfl, Nat.le_of_ble_eq_true rfl⟩ ⟨Nat.zero_le _, Nat.zero_le _⟩ (Nat.le_of_ble_eq_true rfl) (jShr_R _ _) (jkc rfl) h dL_acts_1283 (fun x122 r_x122 _ _ h B => ?_)
                                  refine lv_istore (lv' := [(11, .int (jI x122)), (10, .int (jI x101)), (9, .int (jI x28)), (2, .int (jI x12)), (8, .int (jI x11)), (7, .int (jI x6)), (6, .int (jI x4)), (4, .int (jI x2)), (3, .int (jI x1)), (0, .ref (jD G a1))]) C.1 C.2.1 dL_acts_1286 hl (by decide) rfl (fun ls hl => ?_)
                                  refine lv_iload_n C.1 C.2.1 dL_acts_1288 rfl (lv_at hl 3 rfl) ?_
                                  refine jr_bipush C dL_acts_1289 (by decide) ?_
                                  refine jr_ishr C dL_acts_1291 ?_
                                  refine lv_iload_n C.1 C.2.1 dL_acts_1292 rfl (lv_at hl 3 rfl) ?_
                                  refine jr_bipush C dL_acts_1293 (by decide) ?_
                                  refine jr_ishr C dL_acts_1295 ?_
                                  refine jr_bipush C dL_acts_1296 (by decide) ?_
                                  refine cl_L_low C hl.1 B q_220 ⟨Nat.le_of_ble_eq_true rfl, Nat.le_of_ble_eq_true rfl⟩ ⟨Nat.zero_le _, Nat.zero_le _⟩ (Nat.le_of_ble_eq_true rfl) (jShr_R _ _) (jkc rfl) h dL_acts_1298 (fun x123 r_x123 _ _ h B => ?_)
                                  obtain ⟨j1301_125, hj1301_125, h⟩ := jx_join (P := fun j1301_125 : Int → Prop => ∀ (x124 : Int) (H : Heap) (locs : List Loc) (ls : Array Slot), j1301_125 x124 → jR x124 → Hp G M s.heap H locs → lv_has ls 18 [(11, .int (jI x122)), (10, .int (jI x101)), (2, .int (jI x12)), (0, .ref (jD G a1))] → W p l e (rmm 9 232) s m args below meth c H locs 0 0 (MQ below (qZ G k) args s 0 0 (gA G)) (F0 m 1311 ls [.int (jI x124), .int (jI (jShr x12 6))])) h (by
                                    intro x124 H locs ls h r_x124 B hl
                                    refine cl_L_low C hl.1 B q_220 ⟨Nat.le_of_ble_eq_true rfl, Nat.le_of_ble_eq_true rfl⟩ ⟨Nat.zero_le _, Nat.zero_le _⟩ (Nat.le_of_ble_eq_true rfl) (jShr_R _ _) r_x124 h dL_acts_1311 (fun x126 r_x126 _ _ h B => ?_)
                                    refine lv_istore (lv' := [(12, .int (jI x126)), (11, .int (jI x122)), (10, .int (jI x101)), (2, .int (jI x12)), (0, .ref (jD G a1))]) C.1 C.2.1 dL_acts_1314 hl (by decide) rfl (fun ls hl => ?_)
                                    refine lv_iload_n C.1 C.2.1 dL_acts_1316 rfl (lv_at hl 3 rfl) ?_
                                    refine jr_bipush C dL_acts_1317 (by decide) ?_
                                    refine jr_ishr C dL_acts_1319 ?_
                                    refine lv_iload_n C.1 C.2.1 dL_acts_1320 rfl (lv_at hl 3 rfl) ?_
                                    refine jr_bipush C dL_acts_1321 (by decide) ?_
                                    refine jr_ishr C dL_acts_1323 ?_
                                    refine jr_bipush C dL_acts_1324 (by decide) ?_
                                    refine cl_L_low C hl.1 B q_220 ⟨Nat.le_of_ble_eq_true rfl, Nat.le_of_ble_eq_true rfl⟩ ⟨Nat.zero_le _, Nat.zero_le _⟩ (Nat.le_of_ble_eq_true rfl) (jShr_R _ _) (jkc rfl) h dL_acts_1326 (fun x127 r_x127 _ _ h B => ?_)
                                    obtain ⟨j1329_129, hj1329_129, h⟩ := jx_join (P := fun j1329_129 : Int → Prop => ∀ (x128 : Int) (H : Heap) (locs : List Loc) (ls : Array Slot), j1329_129 x128 → jR x128 → Hp G M s.heap H locs → lv_has ls 18 [(12, .int (jI x126)), (11, .int (jI x122)), (10, .int (jI x101)), (0, .ref (jD G a1))] → W p l e (rmm 9 232) s m args below meth c H locs 0 0 (MQ below (qZ G k) args s 0 0 (gA G)) (F0 m 1339 ls [.int (jI x128), .int (jI (jShr x12 9))])) h (by
                                      intro x128 H locs ls h r_x128 B hl
                                      refine cl_L_low C hl.1 B q_220 ⟨Nat.le_of_ble_eq_true rfl, Nat.le_of_ble_eq_true rfl⟩ ⟨Nat.zero_le _, Nat.zero_le _⟩ (Nat.le_of_ble_eq_true rfl) (jShr_R _ _) r_x128 h dL_acts_1339 (fun x130 r_x130 _ _ h B => ?_)
                                      refine lv_istore (lv' := [(13, .int (jI x130)), (12, .int (jI x126)), (11, .int (jI x122)), (10, .int (jI x101)), (0, .ref (jD G a1))]) C.1 C.2.1 dL_acts_1342 hl (by decide) rfl (fun ls hl => ?_)
                                      refine lv_iload C.1 C.2.1 dL_acts_1344 (lv_at hl 3 rfl) ?_
                                      refine jr_bipush C dL_acts_1346 (by decide) ?_
                                      obtain ⟨j1348_132, hj1348_132, h⟩ := jx_join (P := fun j1348_132 : Int → Prop => ∀ (x131 : Int) (H : Heap) (locs : List Loc) (ls : Array Slot), j1348_132 x131 → (x131 = 0 ∨ x131 = 1) → Hp G M s.heap H locs → lv_has ls 18 [(13, .int (jI x130)), (12, .int (jI x126)), (11, .int (jI x122)), (10, .int (jI x101)), (0, .ref (jD G a1))] → W p l e (rmm 9 232) s m args below meth c H locs 0 0 (MQ below (qZ G k) args s 0 0 (gA G)) (F0 m 1370 ls [.int (jI x131)])) h (by
                                        intro x131 H locs ls h z_x131 B hl
                                        refine lv_istore (lv' := [(14, .int (jI x131)), (13, .int (jI x130)), (12, .int (jI x126)), (11, .int (jI x122)), (10, .int (jI x101)), (0, .ref (jD G a1))]) C.1 C.2.1 dL_acts_1370 hl (by decide) rfl (fun ls hl => ?_)
                                        refine lv_iload C.1 C.2.1 dL_acts_1372 (lv_at hl 0 rfl) ?_
                                        obtain ⟨j1374_134, hj1374_134, h⟩ := jx_join (P := fun j1374_134 : Int → Prop => ∀ (x133 : Int) (H : Heap) (locs : List Loc) (ls : Array Slot), j1374_134 x133 → jR x133 → Hp G M s.heap H locs → lv_has ls 18 [(14, .int (jI x131)), (13, .int (jI x130)), (12, .int (jI x126)), (11, .int (jI x122)), (10, .int (jI x101)), (0, .ref (jD G a1))] → W p l e (rmm 9 232) s m args below meth c H locs 0 0 (MQ below (qZ G k) args s 0 0 (gA G)) (F0 m 1387 ls [.int (jI x133)])) h (by
                                          intro x133 H locs ls h r_x133 B hl
                                          refine lv_istore (lv' := [(15, .int (jI x133)), (14, .int (jI x131)), (13, .int (jI x130)), (12, .int (jI x126)), (11, .int (jI x122)), (10, .int (jI x101)), (0, .ref (jD G a1))]) C.1 C.2.1 dL_acts_1387 hl (by decide) rfl (fun ls hl => ?_)
                                          refine lv_iload C.1 C.2.1 dL_acts_1389 (lv_at hl 1 rfl) ?_
                                          obtain ⟨j1391_136, hj1391_136, h⟩ := jx_join (P := fun j1391_136 : Int → Prop => ∀ (x135 : Int) (H : Heap) (locs : List Loc) (ls : Array Slot), j1391_136 x135 → jR x135 → Hp G M s.heap H locs → lv_has ls 18 [(15, .int (jI x133)), (14, .int (jI x131)), (13, .int (jI x130)), (12, .int (jI x126)), (11, .int (jI x122)), (10, .int (jI x101)), (0, .ref (jD G a1))] → W p l e (rmm 9 232) s m args below meth c H locs 0 0 (MQ below (qZ G k) args s 0 0 (gA G)) (F0 m 1404 ls [.int (jI x135)])) h (by
                                            intro x135 H locs ls h r_x135 B hl
                                            refine lv_istore (lv' := [(16, .int (jI x135)), (15, .int (jI x133)), (14, .int (jI x131)), (13, .int (jI x130)), (12, .int (jI x126)), (11, .int (jI x122)), (10, .int (jI x101)), (0, .ref (jD G a1))]) C.1 C.2.1 dL_acts_1404 hl (by decide) rfl (fun ls hl => ?_)
                                            refine lv_aload_n C.1 C.2.1 dL_acts_1406 rfl (lv_at hl 7 rfl) ?_
                                            refine lv_iload C.1 C.2.1 dL_acts_1407 (lv_at hl 5 rfl) ?_
                                            refine lv_iload C.1 C.2.1 dL_acts_1409 (lv_at hl 4 rfl) ?_
                                            refine lv_iload C.1 C.2.1 dL_acts_1411 (lv_at hl 3 rfl) ?_
                                            refine lv_iload C.1 C.2.1 dL_acts_1413 (lv_at hl 6 rfl) ?_
                                            refine cl_X6_combine C hl.1 B q_710 ⟨Nat.le_of_ble_eq_true rfl, Nat.le_of_ble_eq_true rfl⟩ ⟨Nat.zero_le _, Nat.zero_le _⟩ (Nat.le_of_ble_eq_true rfl) k_a1 r_x122 r_x126 r_x130 r_x101 h dL_acts_1415 (fun x137 M138 r_x137 _ _ h B => ?_)
                                            have o_M138 := B.2.2
                                            refine lv_istore (lv' := [(17, .int (jI x137)), (16, .int (jI x135)), (15, .int (jI x133)), (14, .int (jI x131)), (13, .int (jI x130)), (12, .int (jI x126)), (11, .int (jI x122)), (10, .int (jI x101)), (0, .ref (jD G a1))]) C.1 C.2.1 dL_acts_1418 hl (by decide) rfl (fun ls hl => ?_)
                                            refine lv_iload C.1 C.2.1 dL_acts_1420 (lv_at hl 3 rfl) ?_
                                            refine jr_if_eq (tgt := 1440) C (zR z_x131) h dL_acts_1422 (by decide) (fun hc1422 h => ?_) (fun hc1422 h => ?_)
                                            · refine lv_iload C.1 C.2.1 dL_acts_1440 (lv_at hl 6 rfl) ?_
                                              refine jr_iconst C dL_acts_1442 ?_
                                              refine jr_icmp_ne (tgt := 1461) C r_x122 (jkc rfl) h dL_acts_1443 (by decide) (fun hc1443 h => ?_) (fun hc1443 h => ?_)
                                              · refine lv_iload C.1 C.2.1 dL_acts_1446 (lv_at hl 0 rfl) ?_
                                                refine jr_ldc (n := -1000002) C q_314 (by decide) dL_acts_1448 ?_
                                                refine jr_icmp_ne (tgt := 1457) C r_x137 (jkc rfl) h dL_acts_1450 (by decide) (fun hc1450 h => ?_) (fun hc1450 h => ?_)
                                                · refine jr_iconst C dL_acts_1453 ?_
                                                  refine lv_goto (tgt := 1549) C.1 C.2.1 dL_acts_1454 (by decide) ?_
                                                  exact jr_zret C B hr hlocks (Or.inr rfl) h dL_acts_1549
                                                · refine jr_iconst C dL_acts_1457 ?_
                                                  refine lv_goto (tgt := 1549) C.1 C.2.1 dL_acts_1458 (by decide) ?_
                                                  exact jr_zret C B hr hlocks (Or.inl rfl) h dL_acts_1549
                                              · refine lv_aload_n C.1 C.2.1 dL_acts_1461 rfl (lv_at hl 8 rfl) ?_
                                                refine lv_iload C.1 C.2.1 dL_acts_1462 (lv_at hl 7 rfl) ?_
                                                refine cl_X6_listSize C hl.1 B q_242 ⟨Nat.le_of_ble_eq_true rfl, Nat.le_of_ble_eq_true rfl⟩ ⟨Nat.zero_le _, Nat.zero_le _⟩ (Nat.le_of_ble_eq_true rfl) k_a1 r_x101 h dL_acts_1464 (fun x139 r_x139 _ _ h B => ?_)
                                                refine lv_iload C.1 C.2.1 dL_acts_1467 (lv_at hl 0 rfl) ?_
                                                refine jr_icmp_ne (tgt := 1548) C r_x139 r_x137 h dL_acts_1469 (by decide) (fun hc1469 h => ?_) (fun hc1469 h => ?_)
                                                · refine lv_iload C.1 C.2.1 dL_acts_1472 (lv_at hl 6 rfl) ?_
                                                  refine jr_if_ne (tgt := 1494) C r_x122 h dL_acts_1474 (by decide) (fun hc1474 h => ?_) (fun hc1474 h => ?_)
                                                  · refine lv_iload C.1 C.2.1 dL_acts_1477 (lv_at hl 0 rfl) ?_
                                                    refine lv_iload C.1 C.2.1 dL_acts_1479 (lv_at hl 2 rfl) ?_
                                                    refine jr_icmp_gt (tgt := 1548) C r_x137 r_x133 h dL_acts_1481 (by decide) (fun hc1481 h => ?_) (fun hc1481 h => ?_)
                                                    · refine lv_iload C.1 C.2.1 dL_acts_1484 (lv_at hl 0 rfl) ?_
                                                      refine lv_iload C.1 C.2.1 dL_acts_1486 (lv_at hl 1 rfl) ?_
                                                      refine jr_icmp_gt (tgt := 1548) C r_x137 r_x135 h dL_acts_1488 (by decide) (fun hc1488 h => ?_) (fun hc1488 h => ?_)
                                                      · refine lv_goto (tgt := 1544) C.1 C.2.1 dL_acts_1491 (by decide) ?_
                                                        refine jr_iconst C dL_acts_1544 ?_
                                                        refine lv_goto (tgt := 1549) C.1 C.2.1 dL_acts_1545 (by decide) ?_
                                                        exact jr_zret C B hr hlocks (Or.inr rfl) h dL_acts_1549
                                                      · refine jr_iconst C dL_acts_1548 ?_
                                                        exact jr_zret C B hr hlocks (Or.inl rfl) h dL_acts_1549
                                                    · refine jr_iconst C dL_acts_1548 ?_
                                                      exact jr_zret C B hr hlocks (Or.inl rfl) h dL_acts_1549
                                                  · refine lv_iload C.1 C.2.1 dL_acts_1494 (lv_at hl 6 rfl) ?_
                                                    refine jr_iconst C dL_acts_1496 ?_
                                                    refine jr_icmp_ne (tgt := 1527) C r_x122 (jkc rfl) h dL_acts_1497 (by decide) (fun hc1497 h => ?_) (fun hc1497 h => ?_)
                                                    · refine lv_iload C.1 C.2.1 dL_acts_1500 (lv_at hl 0 rfl) ?_
                                                      refine lv_iload C.1 C.2.1 dL_acts_1502 (lv_at hl 2 rfl) ?_
                                                      refine jr_icmp_lt (tgt := 1548) C r_x137 r_x133 h dL_acts_1504 (by decide) (fun hc1504 h => ?_) (fun hc1504 h => ?_)
                                                      · refine jr_iconst C dL_acts_1548 ?_
                                                        exact jr_zret C B hr hlocks (Or.inl rfl) h dL_acts_1549
                                                      · refine lv_iload C.1 C.2.1 dL_acts_1507 (lv_at hl 0 rfl) ?_
                                                        refine lv_iload C.1 C.2.1 dL_acts_1509 (lv_at hl 1 rfl) ?_
                                                        refine jr_icmp_lt (tgt := 1548) C r_x137 r_x135 h dL_acts_1511 (by decide) (fun hc1511 h => ?_) (fun hc1511 h => ?_)
                                                        · refine jr_iconst C dL_acts_1548 ?_
                                                          exact jr_zret C B hr hlocks (Or.inl rfl) h dL_acts_1549
                                                        · refine lv_iload C.1 C.2.1 dL_acts_1514 (lv_at hl 0 rfl) ?_
                                                          refine lv_iload C.1 C.2.1 dL_acts_1516 (lv_at hl 2 rfl) ?_
                                                          refine lv_iload C.1 C.2.1 dL_acts_1518 (lv_at hl 1 rfl) ?_
                                                          refine jr_iadd C dL_acts_1520 ?_
                                                          refine jr_icmp_gt (tgt := 1548) C r_x137 (jW_R _) h dL_acts_1521 (by decide) (fun hc1521 h => ?_) (fun hc1521 h => ?_)
                                                          · refine lv_goto (tgt := 1544) C.1 C.2.1 dL_acts_1524 (by decide) ?_
                                                            refine jr_iconst C dL_acts_1544 ?_
                                                            refine lv_goto (tgt := 1549) C.1 C.2.1 dL_acts_1545 (by decide) ?_
                                                            exact jr_zret C B hr hlocks (Or.inr rfl) h dL_acts_1549
                                                          · refine jr_iconst C dL_acts_1548 ?_
                                                            exact jr_zret C B hr hlocks (Or.inl rfl) h dL_acts_1549
                                                    · refine lv_iload C.1 C.2.1 dL_acts_1527 (lv_at hl 0 rfl) ?_
                                                      refine lv_iload C.1 C.2.1 dL_acts_1529 (lv_at hl 2 rfl) ?_
                                                      refine jr_icmp_gt (tgt := 1548) C r_x137 r_x133 h dL_acts_1531 (by decide) (fun hc1531 h => ?_) (fun hc1531 h => ?_)
                                                      · refine lv_iload C.1 C.2.1 dL_acts_1534 (lv_at hl 0 rfl) ?_
                                                        refine lv_iload C.1 C.2.1 dL_acts_1536 (lv_at hl 2 rfl) ?_
                                                        refine lv_iload C.1 C.2.1 dL_acts_1538 (lv_at hl 1 rfl) ?_
                                                        refine jr_isub C dL_acts_1540 ?_
                                                        refine jr_icmp_lt (tgt := 1548) C r_x137 (jW_R _) h dL_acts_1541 (by decide) (fun hc1541 h => ?_) (fun hc1541 h => ?_)
                                                        · refine jr_iconst C dL_acts_1548 ?_
                                                          exact jr_zret C B hr hlocks (Or.inl rfl) h dL_acts_1549
                                                        · refine jr_iconst C dL_acts_1544 ?_
                                                          refine lv_goto (tgt := 1549) C.1 C.2.1 dL_acts_1545 (by decide) ?_
                                                          exact jr_zret C B hr hlocks (Or.inr rfl) h dL_acts_1549
                                                      · refine jr_iconst C dL_acts_1548 ?_
                                                        exact jr_zret C B hr hlocks (Or.inl rfl) h dL_acts_1549
                                                · refine jr_iconst C dL_acts_1548 ?_
                                                  exact jr_zret C B hr hlocks (Or.inl rfl) h dL_acts_1549
                                            · refine lv_iload C.1 C.2.1 dL_acts_1425 (lv_at hl 0 rfl) ?_
                                              refine jr_ldc (n := -1000001) C q_315 (by decide) dL_acts_1427 ?_
                                              refine jr_icmp_ne (tgt := 1436) C r_x137 (jkc rfl) h dL_acts_1429 (by decide) (fun hc1429 h => ?_) (fun hc1429 h => ?_)
                                              · refine jr_iconst C dL_acts_1432 ?_
                                                refine lv_goto (tgt := 1549) C.1 C.2.1 dL_acts_1433 (by decide) ?_
                                                exact jr_zret C B hr hlocks (Or.inr rfl) h dL_acts_1549
                                              · refine jr_iconst C dL_acts_1436 ?_
                                                refine lv_goto (tgt := 1549) C.1 C.2.1 dL_acts_1437 (by decide) ?_
                                                exact jr_zret C B hr hlocks (Or.inl rfl) h dL_acts_1549)
                                          refine jr_if_eq (tgt := 1398) C (zR z_x131) h dL_acts_1391 (by decide) (fun hc1391 h => ?_) (fun hc1391 h => ?_)
                                          · refine lv_aload_n C.1 C.2.1 dL_acts_1398 rfl (lv_at hl 6 rfl) ?_
                                            refine lv_iload C.1 C.2.1 dL_acts_1399 (lv_at hl 2 rfl) ?_
                                            refine cl_X6_listSize C hl.1 B q_242 ⟨Nat.le_of_ble_eq_true rfl, Nat.le_of_ble_eq_true rfl⟩ ⟨Nat.zero_le _, Nat.zero_le _⟩ (Nat.le_of_ble_eq_true rfl) k_a1 r_x130 h dL_acts_1401 (fun x140 r_x140 _ _ h B => ?_)
                                            exact hj1391_136 _ _ _ _ h r_x140 B (lv_sub hl [0, 1, 2, 3, 4, 5, 6] rfl)
                                          · refine jr_iconst C dL_acts_1394 ?_
                                            refine lv_goto (tgt := 1404) C.1 C.2.1 dL_acts_1395 (by decide) ?_
                                            exact hj1391_136 _ _ _ _ h (jkc rfl) B (lv_sub hl [0, 1, 2, 3, 4, 5, 6] rfl))
                                        refine jr_if_eq (tgt := 1381) C (zR z_x131) h dL_acts_1374 (by decide) (fun hc1374 h => ?_) (fun hc1374 h => ?_)
                                        · refine lv_aload_n C.1 C.2.1 dL_acts_1381 rfl (lv_at hl 5 rfl) ?_
                                          refine lv_iload C.1 C.2.1 dL_acts_1382 (lv_at hl 2 rfl) ?_
                                          refine cl_X6_listSize C hl.1 B q_242 ⟨Nat.le_of_ble_eq_true rfl, Nat.le_of_ble_eq_true rfl⟩ ⟨Nat.zero_le _, Nat.zero_le _⟩ (Nat.le_of_ble_eq_true rfl) k_a1 r_x126 h dL_acts_1384 (fun x141 r_x141 _ _ h B => ?_)
                                          exact hj1374_134 _ _ _ _ h r_x141 B (lv_sub hl [0, 1, 2, 3, 4, 5] rfl)
                                        · refine jr_iconst C dL_acts_1377 ?_
                                          refine lv_goto (tgt := 1387) C.1 C.2.1 dL_acts_1378 (by decide) ?_
                                          exact hj1374_134 _ _ _ _ h (jkc rfl) B (lv_sub hl [0, 1, 2, 3, 4, 5] rfl))
                                      refine jr_icmp_eq (tgt := 1365) C r_x101 (jkc rfl) h dL_acts_1348 (by decide) (fun hc1348 h => ?_) (fun hc1348 h => ?_)
                                      · refine jr_iconst C dL_acts_1365 ?_
                                        refine lv_goto (tgt := 1370) C.1 C.2.1 dL_acts_1366 (by decide) ?_
                                        exact hj1348_132 _ _ _ _ h (Or.inr rfl) B (lv_sub hl [0, 1, 2, 3, 4] rfl)
                                      · refine lv_iload C.1 C.2.1 dL_acts_1351 (lv_at hl 1 rfl) ?_
                                        refine jr_bipush C dL_acts_1353 (by decide) ?_
                                        refine jr_icmp_eq (tgt := 1365) C r_x126 (jkc rfl) h dL_acts_1355 (by decide) (fun hc1355 h => ?_) (fun hc1355 h => ?_)
                                        · refine jr_iconst C dL_acts_1365 ?_
                                          refine lv_goto (tgt := 1370) C.1 C.2.1 dL_acts_1366 (by decide) ?_
                                          exact hj1348_132 _ _ _ _ h (Or.inr rfl) B (lv_sub hl [0, 1, 2, 3, 4] rfl)
                                        · refine lv_iload C.1 C.2.1 dL_acts_1358 (lv_at hl 0 rfl) ?_
                                          refine jr_bipush C dL_acts_1360 (by decide) ?_
                                          refine jr_icmp_ne (tgt := 1369) C r_x130 (jkc rfl) h dL_acts_1362 (by decide) (fun hc1362 h => ?_) (fun hc1362 h => ?_)
                                          · refine jr_iconst C dL_acts_1365 ?_
                                            refine lv_goto (tgt := 1370) C.1 C.2.1 dL_acts_1366 (by decide) ?_
                                            exact hj1348_132 _ _ _ _ h (Or.inr rfl) B (lv_sub hl [0, 1, 2, 3, 4] rfl)
                                          · refine jr_iconst C dL_acts_1369 ?_
                                            exact hj1348_132 _ _ _ _ h (Or.inl rfl) B (lv_sub hl [0, 1, 2, 3, 4] rfl))
                                    refine jr_if_ne (tgt := 1337) C r_x127 h dL_acts_1329 (by decide) (fun hc1329 h => ?_) (fun hc1329 h => ?_)
                                    · refine jr_bipush C dL_acts_1332 (by decide) ?_
                                      refine lv_goto (tgt := 1339) C.1 C.2.1 dL_acts_1334 (by decide) ?_
                                      exact hj1329_129 _ _ _ _ h (jkc rfl) B (lv_sub hl [0, 1, 2, 4] rfl)
                                    · refine jr_bipush C dL_acts_1337 (by decide) ?_
                                      exact hj1329_129 _ _ _ _ h (jkc rfl) B (lv_sub hl [0, 1, 2, 4] rfl))
                                  refine jr_if_ne (tgt := 1309) C r_x123 h dL_acts_1301 (by decide) (fun hc1301 h => ?_) (fun hc1301 h => ?_)
                                  · refine jr_bipush C dL_acts_1304 (by decide) ?_
                                    refine lv_goto (tgt := 1311) C.1 C.2.1 dL_acts_1306 (by decide) ?_
                                    exact hj1301_125 _ _ _ _ h (jkc rfl) B (lv_sub hl [0, 1, 3, 9] rfl)
                                  · refine jr_bipush C dL_acts_1309 (by decide) ?_
                                    exact hj1301_125 _ _ _ _ h (jkc rfl) B (lv_sub hl [0, 1, 3, 9] rfl)
                                · refine lv_iload C.1 C.2.1 dL_acts_1550 (lv_at hl 0 rfl) ?_
                                  refine jr_bipush C dL_acts_1552 (by decide) ?_
                                  obtain ⟨j1554_143, hj1554_143, h⟩ := jx_join (P := fun j1554_143 : Int → Prop => ∀ (x142 : Int) (H : Heap) (locs : List Loc) (ls : Array Slot), j1554_143 x142 → jR x142 → Hp G M s.heap H locs → lv_has ls 18 [(10, .int (jI x101)), (0, .ref (jD G a1))] → W p l e (rmm 9 232) s m args below meth c H locs 0 0 (MQ below (qZ G k) args s 0 0 (gA G)) (F0 m 1568 ls [.int (jI x142)])) h (by
                                    intro x142 H locs ls h r_x142 B hl
                                    refine lv_istore (lv' := [(11, .int (jI x142)), (10, .int (jI x101)), (0, .ref (jD G a1))]) C.1 C.2.1 dL_acts_1568 hl (by decide) rfl (fun ls hl => ?_)
                                    refine lv_aload_n C.1 C.2.1 dL_acts_1570 rfl (lv_at hl 2 rfl) ?_
                                    refine lv_iload C.1 C.2.1 dL_acts_1571 (lv_at hl 1 rfl) ?_
                                    refine cl_X6_clearList C hl.1 B q_717 ⟨Nat.le_of_ble_eq_true rfl, Nat.le_of_ble_eq_true rfl⟩ ⟨Nat.zero_le _, Nat.zero_le _⟩ (Nat.le_of_ble_eq_true rfl) k_a1 r_x101 h dL_acts_1573 (fun x144 M145 r_x144 _ _ h B => ?_)
                                    have o_M145 := B.2.2
                                    refine lv_iload C.1 C.2.1 dL_acts_1576 (lv_at hl 0 rfl) ?_
                                    refine jr_icmp_ne (tgt := 1601) C r_x144 r_x142 h dL_acts_1578 (by decide) (fun hc1578 h => ?_) (fun hc1578 h => ?_)
                                    · refine lv_iload C.1 C.2.1 dL_acts_1581 (lv_at hl 1 rfl) ?_
                                      refine jr_bipush C dL_acts_1583 (by decide) ?_
                                      refine jr_icmp_eq (tgt := 1597) C r_x101 (jkc rfl) h dL_acts_1585 (by decide) (fun hc1585 h => ?_) (fun hc1585 h => ?_)
                                      · refine jr_iconst C dL_acts_1597 ?_
                                        refine lv_goto (tgt := 1602) C.1 C.2.1 dL_acts_1598 (by decide) ?_
                                        exact jr_zret C B hr hlocks (Or.inr rfl) h dL_acts_1602
                                      · refine lv_aload_n C.1 C.2.1 dL_acts_1588 rfl (lv_at hl 2 rfl) ?_
                                        refine lv_iload C.1 C.2.1 dL_acts_1589 (lv_at hl 1 rfl) ?_
                                        refine cl_X6_listSize C hl.1 B q_242 ⟨Nat.le_of_ble_eq_true rfl, Nat.le_of_ble_eq_true rfl⟩ ⟨Nat.zero_le _, Nat.zero_le _⟩ (Nat.le_of_ble_eq_true rfl) k_a1 r_x101 h dL_acts_1591 (fun x146 r_x146 _ _ h B => ?_)
                                        refine jr_if_ne (tgt := 1601) C r_x146 h dL_acts_1594 (by decide) (fun hc1594 h => ?_) (fun hc1594 h => ?_)
                                        · refine jr_iconst C dL_acts_1597 ?_
                                          refine lv_goto (tgt := 1602) C.1 C.2.1 dL_acts_1598 (by decide) ?_
                                          exact jr_zret C B hr hlocks (Or.inr rfl) h dL_acts_1602
                                        · refine jr_iconst C dL_acts_1601 ?_
                                          exact jr_zret C B hr hlocks (Or.inl rfl) h dL_acts_1602
                                    · refine jr_iconst C dL_acts_1601 ?_
                                      exact jr_zret C B hr hlocks (Or.inl rfl) h dL_acts_1602)
                                  refine jr_icmp_ne (tgt := 1562) C r_x101 (jkc rfl) h dL_acts_1554 (by decide) (fun hc1554 h => ?_) (fun hc1554 h => ?_)
                                  · refine jr_ldc (n := -1000001) C q_315 (by decide) dL_acts_1557 ?_
                                    refine lv_goto (tgt := 1568) C.1 C.2.1 dL_acts_1559 (by decide) ?_
                                    exact hj1554_143 _ _ _ _ h (jkc rfl) B (lv_sub hl [0, 8] rfl)
                                  · refine lv_aload_n C.1 C.2.1 dL_acts_1562 rfl (lv_at hl 8 rfl) ?_
                                    refine lv_iload C.1 C.2.1 dL_acts_1563 (lv_at hl 0 rfl) ?_
                                    refine cl_X6_listSize C hl.1 B q_242 ⟨Nat.le_of_ble_eq_true rfl, Nat.le_of_ble_eq_true rfl⟩ ⟨Nat.zero_le _, Nat.zero_le _⟩ (Nat.le_of_ble_eq_true rfl) k_a1 r_x101 h dL_acts_1565 (fun x147 r_x147 _ _ h B => ?_)
                                    exact hj1554_143 _ _ _ _ h r_x147 B (lv_sub hl [0, 8] rfl))
            refine jr_if_eq (tgt := 288) C (zR z_x6) h dL_acts_259 (by decide) (fun hc259 h => ?_) (fun hc259 h => ?_)
            · refine jr_iconst C dL_acts_288 ?_
              exact hj259_29 _ _ _ _ h (Or.inl rfl) B (lv_sub hl [0, 1, 2, 3, 4, 5, 6] rfl)
            · refine lv_aload_n C.1 C.2.1 dL_acts_262 rfl (lv_at hl 6 rfl) ?_
              refine lv_iload C.1 C.2.1 dL_acts_263 (lv_at hl 3 rfl) ?_
              refine cl_X6_locker C hl.1 B q_267 ⟨Nat.le_of_ble_eq_true rfl, Nat.le_of_ble_eq_true rfl⟩ ⟨Nat.zero_le _, Nat.zero_le _⟩ (Nat.le_of_ble_eq_true rfl) k_a1 r_x4 h dL_acts_265 (fun x148 r_x148 _ _ h B => ?_)
              refine jr_ldc (n := -1000007) C q_313 (by decide) dL_acts_268 ?_
              refine jr_icmp_eq (tgt := 288) C r_x148 (jkc rfl) h dL_acts_270 (by decide) (fun hc270 h => ?_) (fun hc270 h => ?_)
              · refine jr_iconst C dL_acts_288 ?_
                exact hj259_29 _ _ _ _ h (Or.inl rfl) B (lv_sub hl [0, 1, 2, 3, 4, 5, 6] rfl)
              · refine lv_aload_n C.1 C.2.1 dL_acts_273 rfl (lv_at hl 6 rfl) ?_
                refine lv_iload C.1 C.2.1 dL_acts_274 (lv_at hl 3 rfl) ?_
                refine cl_X6_locker C hl.1 B q_267 ⟨Nat.le_of_ble_eq_true rfl, Nat.le_of_ble_eq_true rfl⟩ ⟨Nat.zero_le _, Nat.zero_le _⟩ (Nat.le_of_ble_eq_true rfl) k_a1 r_x4 h dL_acts_276 (fun x149 r_x149 _ _ h B => ?_)
                refine lv_iload C.1 C.2.1 dL_acts_279 (lv_at hl 1 rfl) ?_
                refine jr_icmp_eq (tgt := 288) C r_x149 r_x11 h dL_acts_281 (by decide) (fun hc281 h => ?_) (fun hc281 h => ?_)
                · refine jr_iconst C dL_acts_288 ?_
                  exact hj259_29 _ _ _ _ h (Or.inl rfl) B (lv_sub hl [0, 1, 2, 3, 4, 5, 6] rfl)
                · refine jr_iconst C dL_acts_284 ?_
                  refine lv_goto (tgt := 289) C.1 C.2.1 dL_acts_285 (by decide) ?_
                  exact hj259_29 _ _ _ _ h (Or.inr rfl) B (lv_sub hl [0, 1, 2, 3, 4, 5, 6] rfl))
      refine jr_if_ne (tgt := 94) C r_x8 h dL_acts_87 (by decide) (fun hc87 h => ?_) (fun hc87 h => ?_)
      · refine jr_iconst C dL_acts_90 ?_
        refine lv_goto (tgt := 95) C.1 C.2.1 dL_acts_91 (by decide) ?_
        exact hj87_10 _ _ _ _ h (jkc rfl) B (lv_sub hl [0, 1, 2, 3, 4, 5] rfl)
      · refine jr_iconst C dL_acts_94 ?_
        exact hj87_10 _ _ _ _ h (jkc rfl) B (lv_sub hl [0, 1, 2, 3, 4, 5] rfl))
    refine jr_if_lt (tgt := 72) C r_x4 h dL_acts_54 (by decide) (fun hc54 h => ?_) (fun hc54 h => ?_)
    · refine jr_iconst C dL_acts_72 ?_
      exact hj54_7 _ _ _ _ h (Or.inl rfl) B (lv_sub hl [0, 1, 2, 3, 4] rfl)
    · refine lv_aload_n C.1 C.2.1 dL_acts_57 rfl (lv_at hl 3 rfl) ?_
      refine lv_iload C.1 C.2.1 dL_acts_58 (lv_at hl 0 rfl) ?_
      refine cl_X6_locker C hl.1 B q_267 ⟨Nat.le_of_ble_eq_true rfl, Nat.le_of_ble_eq_true rfl⟩ ⟨Nat.zero_le _, Nat.zero_le _⟩ (Nat.le_of_ble_eq_true rfl) k_a1 r_x4 h dL_acts_60 (fun x150 r_x150 _ _ h B => ?_)
      refine jr_ldc (n := -1000001) C q_315 (by decide) dL_acts_63 ?_
      refine jr_icmp_eq (tgt := 72) C r_x150 (jkc rfl) h dL_acts_65 (by decide) (fun hc65 h => ?_) (fun hc65 h => ?_)
      · refine jr_iconst C dL_acts_72 ?_
        exact hj54_7 _ _ _ _ h (Or.inl rfl) B (lv_sub hl [0, 1, 2, 3, 4] rfl)
      · refine jr_iconst C dL_acts_68 ?_
        refine lv_goto (tgt := 73) C.1 C.2.1 dL_acts_69 (by decide) ?_
        exact hj54_7 _ _ _ _ h (Or.inr rfl) B (lv_sub hl [0, 1, 2, 3, 4] rfl))
  refine jr_icmp_ge (tgt := 39) C r_x3 r_x2 h dL_acts_27 (by decide) (fun hc27 h => ?_) (fun hc27 h => ?_)
  · refine lv_aload_n C.1 C.2.1 dL_acts_30 rfl (lv_at hl 3 rfl) ?_
    refine lv_iload C.1 C.2.1 dL_acts_31 (lv_at hl 0 rfl) ?_
    refine cl_X6_recordAt C hl.1 B q_263 ⟨Nat.le_of_ble_eq_true rfl, Nat.le_of_ble_eq_true rfl⟩ ⟨Nat.zero_le _, Nat.zero_le _⟩ (Nat.le_of_ble_eq_true rfl) k_a1 r_x3 h dL_acts_33 (fun x151 r_x151 _ _ h B => ?_)
    refine lv_goto (tgt := 50) C.1 C.2.1 dL_acts_36 (by decide) ?_
    exact hj27_5 _ _ _ _ h r_x151 B (lv_sub hl [1, 2, 3, 5] rfl)
  · refine lv_iload_n C.1 C.2.1 dL_acts_39 rfl (lv_at hl 5 rfl) ?_
    refine jr_bipush C dL_acts_40 (by decide) ?_
    refine jr_ishr C dL_acts_42 ?_
    refine jr_bipush C dL_acts_43 (by decide) ?_
    refine cl_L_low C hl.1 B q_220 ⟨Nat.le_of_ble_eq_true rfl, Nat.le_of_ble_eq_true rfl⟩ ⟨Nat.zero_le _, Nat.zero_le _⟩ (Nat.le_of_ble_eq_true rfl) (jShr_R _ _) (jkc rfl) h dL_acts_45 (fun x152 r_x152 _ _ h B => ?_)
    refine jr_iconst C dL_acts_48 ?_
    refine jr_isub C dL_acts_49 ?_
    exact hj27_5 _ _ _ _ h (jW_R _) B (lv_sub hl [1, 2, 3, 5] rfl)
theorem cl_L_acts {p : Program} {l : Launch} {e : Env} {R : Room} {s : State} {m : MethodId} {args : Array Value} {below : List Frame} {meth : Method} {c : Code} {H : Heap} {locs : List Loc} {cells slots : Nat} {Q : State → Prop} {cc : ByteArray} {nL : Nat} {own : String} {G : jG} {H0 : Heap} {pc idx : Nat} {ls : Array Slot} {rest : List Value} {N : Nat} {M : jM} {a1 a2 a3 : Int} {k : Int → jM → Prop} (C : Cx G p s args m c cc nL own) (hl : ls.size = nL) (B : Hp G M H0 H locs) (q1 : Cond.methodLink own idx yL_acts ∈ tb) (hR : (rmm 9 232).frames + 1 ≤ R.frames ∧ 8 + (18 + 11) + (rmm 9 232).locals ≤ R.locals) (hcs : cells ≤ R.cells ∧ slots ≤ R.slots) (hW : (rest.map fun v => v.category).sum ≤ 8) (k_a1 : jK a1 = 7) (r_a2 : jR a2) (r_a3 : jR a3) (h : w_L_acts N M a1 a2 a3 k) (hdg : decode cc pc = .ok (.invokestatic idx, 3)) (kk : ∀ (r : Int) (M' : jM), (r = 0 ∨ r = 1) → ∀ (H1 : Heap) (locs1 : List Loc), k r M' → Hp G M' H0 H1 locs1 → W p l e R s m args below meth c H1 locs1 cells slots Q (F0 m (pc + 3) ls (.int (jI r) :: rest))) : W p l e R s m args below meth c H locs cells slots Q (F0 m pc ls (.int (jI a3) :: .int (jI a2) :: .ref (jD G a1) :: rest)) :=
  jr_callZ B (jr_runS (As := [.ref (jD G a1), .int (jI a2), .int (jI a3)]) (n := 3) C hl B (m_L_acts B.2.2 k_a1 r_a2 r_a3 h) q1 q_441 q_442 q_0 ⟨by decide, by decide, by decide +kernel⟩ rfl ⟨rfl, rfl⟩ hR hcs rfl hW hdg) (fun r M' H1 locs1 hr hk B1 => kk r M' hr H1 locs1 hk B1)
