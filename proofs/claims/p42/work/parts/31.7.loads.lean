def lp_L_loads_220 (N : Nat) (a1 : Int) (a3 : Int) (x24 : Int) (M16 : jM) (kx220 : Int → Prop) : Nat → Int → Int → Prop
  | 0, _, _ => False
  | n + 1, x26, x27 => (w_X6_values N M16 a1 a3 x24 (fun x30 => (if x27 < x30 then (w_X6_subvalues N M16 a1 a3 x24 x27 (fun x31 => (jL (jW (x26 + x31)) (fun x32 => (jL (jW (x27 + 1)) (fun x33 => (lp_L_loads_220 N a1 a3 x24 M16 kx220 n x32 x33))))))) else (kx220 x26))))
def lp_L_loads_211 (N : Nat) (a1 : Int) (a3 : Int) (M16 : jM) (kx211 : Int → Prop) : Nat → Int → Int → Prop
  | 0, _, _ => False
  | n + 1, x23, x24 => (if x24 < 4 then (lp_L_loads_220 N a1 a3 x24 M16 (fun (x28 : Int) => (jL (jW (x24 + 1)) (fun x29 => (lp_L_loads_211 N a1 a3 M16 kx211 n x28 x29)))) N x23 0) else (kx211 x23))
def w_L_loads (N : Nat) (M : jM) (a1 : Int) (a2 : Int) (a3 : Int) (a4 : Int) (k : Int → jM → Prop) : Prop := (w_L_look N M a1 (fun x1 => (w_L_types N M a1 a4 (fun x2 M3 => (w_X6_fault N M3 a1 (fun x4 M5 => (jL (fun (x6 : Int) => (jL (fun (x8 : Int) => (w_X6_load N M5 a1 a2 a3 (fun x10 M11 => (jL (fun (x12 : Int) (M14 : jM) => (w_X6_clearText M14 a1 (fun x15 M16 => (jL (fun (x17 : Int) => (jL (if x17 = 0 then (k 0 M16) else (if x6 = 0 then (if x4 = (-1000007) then (if x10 = (-1000006) then (w_L_look N M16 a1 (fun x20 => (if (jLc x20 x1) = 0 then (k 1 M16) else (k 0 M16)))) else (k 0 M16)) else (if x10 = (-1000003) then (w_L_look N M16 a1 (fun x21 => (if (jLc x21 x1) = 0 then (k 1 M16) else (k 0 M16)))) else (k 0 M16))) else (if x10 = (-1000001) then (w_L_look N M16 a1 (fun x22 => (if (jLc x22 x1) = 0 then (k 1 M16) else (k 0 M16)))) else (k 0 M16)))) (fun j140_19 => (if x6 = 0 then (if x4 = (-1000007) then (if x8 = 0 then (lp_L_loads_211 N a1 a3 M16 (fun (x25 : Int) => (if x17 = 0 then (k 0 M16) else (if x10 = x25 then (if x12 = x15 then (k 1 M16) else (k 0 M16)) else (k 0 M16)))) N 0 0) else (j140_19)) else (j140_19)) else (j140_19))))) (fun j109_18 => (if x2 = 0 then (j109_18 0) else (if x4 = (-1000007) then (j109_18 1) else (if x4 < 0 then (j109_18 0) else (if x4 ≤ x15 then (j109_18 1) else (j109_18 0)))))))))) (fun j82_13 => (if x6 = 0 then (if x10 < 0 then (j82_13 0 M11) else (w_X6_print N M11 a1 a3 (fun x34 M35 => (j82_13 x34 M35)))) else (j82_13 0 M11))))))) (fun j43_9 => (if x6 = 0 then (w_X6_locker N M5 a1 a3 (fun x36 => (if x36 = (-1000007) then (j43_9 0) else (w_X6_locker N M5 a1 a3 (fun x37 => (if x37 = a2 then (j43_9 0) else (j43_9 1))))))) else (j43_9 0))))) (fun j21_7 => (if a2 ≤ 3 then (w_X6_locker N M5 a1 a3 (fun x38 => (if x38 = (-1000001) then (j21_7 1) else (j21_7 0)))) else (j21_7 1))))))))))
set_option maxHeartbeats 4000000 in
set_option maxRecDepth 100000 in
theorem m_L_loads {l : Launch} {G : jG} {N : Nat} {M : jM} {a1 a2 a3 a4 : Int} {k : Int → jM → Prop} (o_M : jOK M) (k_a1 : jK a1 = 7) (r_a2 : jR a2) (r_a3 : jR a3) (r_a4 : jR a4) (h : w_L_loads N M a1 a2 a3 a4 k) : Met l yL_loads (wsG yL_loads cL_loads 17 (some .boolean)) (rmm 8 196) (jPc G M [.ref (jD G a1), .int (jI a2), .int (jI a3), .int (jI a4)]) (qZ G k) 0 0 (gA G) := by
  refine jm_start RL rfl (by decide) (Nat.le_of_ble_eq_true rfl) o_M ?_
  intro p e s m args below meth c ls C hr hlocks hl B
  have hl : lv_has ls 17 [(0, .ref (jD G a1)), (1, .int (jI a2)), (2, .int (jI a3)), (3, .int (jI a4))] := hl
  unfold w_L_loads at h
  refine lv_aload_n C.1 C.2.1 dL_loads_0 rfl (lv_at hl 0 rfl) ?_
  refine cl_L_look C hl.1 B q_224 ⟨Nat.le_of_ble_eq_true rfl, Nat.le_of_ble_eq_true rfl⟩ ⟨Nat.zero_le _, Nat.zero_le _⟩ (Nat.le_of_ble_eq_true rfl) k_a1 h dL_loads_1 (fun x1 _ _ h B => ?_)
  refine lv_lstore (lv' := [(4, .long x1), (0, .ref (jD G a1)), (1, .int (jI a2)), (2, .int (jI a3)), (3, .int (jI a4))]) C.1 C.2.1 dL_loads_4 hl (by decide) rfl (fun ls hl => ?_)
  refine lv_aload_n C.1 C.2.1 dL_loads_6 rfl (lv_at hl 1 rfl) ?_
  refine lv_iload_n C.1 C.2.1 dL_loads_7 rfl (lv_at hl 4 rfl) ?_
  refine cl_L_types C hl.1 B q_537 ⟨Nat.le_of_ble_eq_true rfl, Nat.le_of_ble_eq_true rfl⟩ ⟨Nat.zero_le _, Nat.zero_le _⟩ (Nat.le_of_ble_eq_true rfl) k_a1 r_a4 h dL_loads_8 (fun x2 M3 z_x2 _ _ h B => ?_)
  have o_M3 := B.2.2
  refine lv_istore (lv' := [(6, .int (jI x2)), (4, .long x1), (0, .ref (jD G a1)), (1, .int (jI a2)), (2, .int (jI a3)), (3, .int (jI a4))]) C.1 C.2.1 dL_loads_11 hl (by decide) rfl (fun ls hl => ?_)
  refine lv_aload_n C.1 C.2.1 dL_loads_13 rfl (lv_at hl 2 rfl) ?_
  refine cl_X6_fault C hl.1 B q_555 ⟨Nat.le_of_ble_eq_true rfl, Nat.le_of_ble_eq_true rfl⟩ ⟨Nat.zero_le _, Nat.zero_le _⟩ (Nat.le_of_ble_eq_true rfl) k_a1 h dL_loads_14 (fun x4 M5 r_x4 _ _ h B => ?_)
  have o_M5 := B.2.2
  refine lv_istore (lv' := [(7, .int (jI x4)), (6, .int (jI x2)), (4, .long x1), (0, .ref (jD G a1)), (1, .int (jI a2)), (2, .int (jI a3)), (3, .int (jI a4))]) C.1 C.2.1 dL_loads_17 hl (by decide) rfl (fun ls hl => ?_)
  refine lv_iload_n C.1 C.2.1 dL_loads_19 rfl (lv_at hl 4 rfl) ?_
  refine jr_iconst C dL_loads_20 ?_
  obtain ⟨j21_7, hj21_7, h⟩ := jx_join (P := fun j21_7 : Int → Prop => ∀ (x6 : Int) (H : Heap) (locs : List Loc) (ls : Array Slot), j21_7 x6 → (x6 = 0 ∨ x6 = 1) → Hp G M5 s.heap H locs → lv_has ls 17 [(7, .int (jI x4)), (6, .int (jI x2)), (4, .long x1), (0, .ref (jD G a1)), (1, .int (jI a2)), (2, .int (jI a3))] → W p l e (rmm 8 196) s m args below meth c H locs 0 0 (MQ below (qZ G k) args s 0 0 (gA G)) (F0 m 39 ls [.int (jI x6)])) h (by
    intro x6 H locs ls h z_x6 B hl
    refine lv_istore (lv' := [(8, .int (jI x6)), (7, .int (jI x4)), (6, .int (jI x2)), (4, .long x1), (0, .ref (jD G a1)), (1, .int (jI a2)), (2, .int (jI a3))]) C.1 C.2.1 dL_loads_39 hl (by decide) rfl (fun ls hl => ?_)
    refine lv_iload C.1 C.2.1 dL_loads_41 (lv_at hl 0 rfl) ?_
    obtain ⟨j43_9, hj43_9, h⟩ := jx_join (P := fun j43_9 : Int → Prop => ∀ (x8 : Int) (H : Heap) (locs : List Loc) (ls : Array Slot), j43_9 x8 → (x8 = 0 ∨ x8 = 1) → Hp G M5 s.heap H locs → lv_has ls 17 [(8, .int (jI x6)), (7, .int (jI x4)), (6, .int (jI x2)), (4, .long x1), (0, .ref (jD G a1)), (1, .int (jI a2)), (2, .int (jI a3))] → W p l e (rmm 8 196) s m args below meth c H locs 0 0 (MQ below (qZ G k) args s 0 0 (gA G)) (F0 m 70 ls [.int (jI x8)])) h (by
      intro x8 H locs ls h z_x8 B hl
      refine lv_istore (lv' := [(9, .int (jI x8)), (8, .int (jI x6)), (7, .int (jI x4)), (6, .int (jI x2)), (4, .long x1), (0, .ref (jD G a1)), (1, .int (jI a2)), (2, .int (jI a3))]) C.1 C.2.1 dL_loads_70 hl (by decide) rfl (fun ls hl => ?_)
      refine lv_aload_n C.1 C.2.1 dL_loads_72 rfl (lv_at hl 5 rfl) ?_
      refine lv_iload_n C.1 C.2.1 dL_loads_73 rfl (lv_at hl 6 rfl) ?_
      refine lv_iload_n C.1 C.2.1 dL_loads_74 rfl (lv_at hl 7 rfl) ?_
      refine cl_X6_load C hl.1 B q_622 ⟨Nat.le_of_ble_eq_true rfl, Nat.le_of_ble_eq_true rfl⟩ ⟨Nat.zero_le _, Nat.zero_le _⟩ (Nat.le_of_ble_eq_true rfl) k_a1 r_a2 r_a3 h dL_loads_75 (fun x10 M11 r_x10 _ _ h B => ?_)
      have o_M11 := B.2.2
      refine lv_istore (lv' := [(10, .int (jI x10)), (9, .int (jI x8)), (8, .int (jI x6)), (7, .int (jI x4)), (6, .int (jI x2)), (4, .long x1), (0, .ref (jD G a1)), (1, .int (jI a2)), (2, .int (jI a3))]) C.1 C.2.1 dL_loads_78 hl (by decide) rfl (fun ls hl => ?_)
      refine lv_iload C.1 C.2.1 dL_loads_80 (lv_at hl 2 rfl) ?_
      obtain ⟨j82_13, hj82_13, h⟩ := jx_join (P := fun j82_13 : Int → jM → Prop => ∀ (x12 : Int) (M14 : jM) (H : Heap) (locs : List Loc) (ls : Array Slot), j82_13 x12 M14 → jR x12 → Hp G M14 s.heap H locs → lv_has ls 17 [(10, .int (jI x10)), (9, .int (jI x8)), (8, .int (jI x6)), (7, .int (jI x4)), (6, .int (jI x2)), (4, .long x1), (0, .ref (jD G a1)), (2, .int (jI a3))] → W p l e (rmm 8 196) s m args below meth c H locs 0 0 (MQ below (qZ G k) args s 0 0 (gA G)) (F0 m 99 ls [.int (jI x12)])) h (by
        intro x12 M14 H locs ls h r_x12 B hl
        have o_M14 := B.2.2
        refine lv_istore (lv' := [(11, .int (jI x12)), (10, .int (jI x10)), (9, .int (jI x8)), (8, .int (jI x6)), (7, .int (jI x4)), (6, .int (jI x2)), (4, .long x1), (0, .ref (jD G a1)), (2, .int (jI a3))]) C.1 C.2.1 dL_loads_99 hl (by decide) rfl (fun ls hl => ?_)
        refine lv_aload_n C.1 C.2.1 dL_loads_101 rfl (lv_at hl 7 rfl) ?_
        refine cl_X6_clearText C hl.1 B q_540 ⟨Nat.le_of_ble_eq_true rfl, Nat.le_of_ble_eq_true rfl⟩ ⟨Nat.zero_le _, Nat.zero_le _⟩ (Nat.le_of_ble_eq_true rfl) k_a1 h dL_loads_102 (fun x15 M16 r_x15 _ _ h B => ?_)
        have o_M16 := B.2.2
        refine lv_istore (lv' := [(12, .int (jI x15)), (11, .int (jI x12)), (10, .int (jI x10)), (9, .int (jI x8)), (8, .int (jI x6)), (7, .int (jI x4)), (6, .int (jI x2)), (4, .long x1), (0, .ref (jD G a1)), (2, .int (jI a3))]) C.1 C.2.1 dL_loads_105 hl (by decide) rfl (fun ls hl => ?_)
        refine lv_iload C.1 C.2.1 dL_loads_107 (lv_at hl 6 rfl) ?_
        obtain ⟨j109_18, hj109_18, h⟩ := jx_join (P := fun j109_18 : Int → Prop => ∀ (x17 : Int) (H : Heap) (locs : List Loc) (ls : Array Slot), j109_18 x17 → (x17 = 0 ∨ x17 = 1) → Hp G M16 s.heap H locs → lv_has ls 17 [(12, .int (jI x15)), (11, .int (jI x12)), (10, .int (jI x10)), (9, .int (jI x8)), (8, .int (jI x6)), (7, .int (jI x4)), (4, .long x1), (0, .ref (jD G a1)), (2, .int (jI a3))] → W p l e (rmm 8 196) s m args below meth c H locs 0 0 (MQ below (qZ G k) args s 0 0 (gA G)) (F0 m 136 ls [.int (jI x17)])) h (by
          intro x17 H locs ls h z_x17 B hl
          refine lv_istore (lv' := [(13, .int (jI x17)), (12, .int (jI x15)), (11, .int (jI x12)), (10, .int (jI x10)), (9, .int (jI x8)), (8, .int (jI x6)), (7, .int (jI x4)), (4, .long x1), (0, .ref (jD G a1)), (2, .int (jI a3))]) C.1 C.2.1 dL_loads_136 hl (by decide) rfl (fun ls hl => ?_)
          refine lv_iload C.1 C.2.1 dL_loads_138 (lv_at hl 5 rfl) ?_
          obtain ⟨j140_19, hj140_19, h⟩ := jx_join (P := fun j140_19 : Prop => ∀ (H : Heap) (locs : List Loc) (ls : Array Slot), j140_19 → Hp G M16 s.heap H locs → lv_has ls 17 [(13, .int (jI x17)), (10, .int (jI x10)), (8, .int (jI x6)), (7, .int (jI x4)), (4, .long x1), (0, .ref (jD G a1))] → W p l e (rmm 8 196) s m args below meth c H locs 0 0 (MQ below (qZ G k) args s 0 0 (gA G)) (F0 m 155 ls [])) h (by
            intro H locs ls h  B hl
            refine lv_iload C.1 C.2.1 dL_loads_155 (lv_at hl 0 rfl) ?_
            refine jr_if_eq (tgt := 203) C (zR z_x17) h dL_loads_157 (by decide) (fun hc157 h => ?_) (fun hc157 h => ?_)
            · refine jr_iconst C dL_loads_203 ?_
              exact jr_zret C B hr hlocks (Or.inl rfl) h dL_loads_204
            · refine lv_iload C.1 C.2.1 dL_loads_160 (lv_at hl 1 rfl) ?_
              refine lv_iload C.1 C.2.1 dL_loads_162 (lv_at hl 2 rfl) ?_
              refine jr_if_eq (tgt := 172) C (zR z_x6) h dL_loads_164 (by decide) (fun hc164 h => ?_) (fun hc164 h => ?_)
              · refine lv_iload C.1 C.2.1 dL_loads_172 (lv_at hl 3 rfl) ?_
                refine jr_ldc (n := -1000007) C q_313 (by decide) dL_loads_174 ?_
                refine jr_icmp_eq (tgt := 184) C r_x4 (jkc rfl) h dL_loads_176 (by decide) (fun hc176 h => ?_) (fun hc176 h => ?_)
                · refine jr_ldc (n := -1000006) C q_511 (by decide) dL_loads_184 ?_
                  refine jr_icmp_ne (tgt := 203) C r_x10 (jkc rfl) h dL_loads_186 (by decide) (fun hc186 h => ?_) (fun hc186 h => ?_)
                  · refine lv_aload_n C.1 C.2.1 dL_loads_189 rfl (lv_at hl 5 rfl) ?_
                    refine cl_L_look C hl.1 B q_224 ⟨Nat.le_of_ble_eq_true rfl, Nat.le_of_ble_eq_true rfl⟩ ⟨Nat.zero_le _, Nat.zero_le _⟩ (Nat.le_of_ble_eq_true rfl) k_a1 h dL_loads_190 (fun x20 _ _ h B => ?_)
                    refine lv_lload C.1 C.2.1 dL_loads_193 (lv_at hl 4 rfl) ?_
                    refine jr_lcmp C dL_loads_195 ?_
                    refine jr_if_ne (tgt := 203) C (jR_of _) h dL_loads_196 (by decide) (fun hc196 h => ?_) (fun hc196 h => ?_)
                    · refine jr_iconst C dL_loads_199 ?_
                      refine lv_goto (tgt := 204) C.1 C.2.1 dL_loads_200 (by decide) ?_
                      exact jr_zret C B hr hlocks (Or.inr rfl) h dL_loads_204
                    · refine jr_iconst C dL_loads_203 ?_
                      exact jr_zret C B hr hlocks (Or.inl rfl) h dL_loads_204
                  · refine jr_iconst C dL_loads_203 ?_
                    exact jr_zret C B hr hlocks (Or.inl rfl) h dL_loads_204
                · refine jr_ldc (n := -1000003) C q_646 (by decide) dL_loads_179 ?_
                  refine lv_goto (tgt := 186) C.1 C.2.1 dL_loads_181 (by decide) ?_
                  refine jr_icmp_ne (tgt := 203) C r_x10 (jkc rfl) h dL_loads_186 (by decide) (fun hc186 h => ?_) (fun hc186 h => ?_)
                  · refine lv_aload_n C.1 C.2.1 dL_loads_189 rfl (lv_at hl 5 rfl) ?_
                    refine cl_L_look C hl.1 B q_224 ⟨Nat.le_of_ble_eq_true rfl, Nat.le_of_ble_eq_true rfl⟩ ⟨Nat.zero_le _, Nat.zero_le _⟩ (Nat.le_of_ble_eq_true rfl) k_a1 h dL_loads_190 (fun x21 _ _ h B => ?_)
                    refine lv_lload C.1 C.2.1 dL_loads_193 (lv_at hl 4 rfl) ?_
                    refine jr_lcmp C dL_loads_195 ?_
                    refine jr_if_ne (tgt := 203) C (jR_of _) h dL_loads_196 (by decide) (fun hc196 h => ?_) (fun hc196 h => ?_)
                    · refine jr_iconst C dL_loads_199 ?_
                      refine lv_goto (tgt := 204) C.1 C.2.1 dL_loads_200 (by decide) ?_
                      exact jr_zret C B hr hlocks (Or.inr rfl) h dL_loads_204
                    · refine jr_iconst C dL_loads_203 ?_
                      exact jr_zret C B hr hlocks (Or.inl rfl) h dL_loads_204
                  · refine jr_iconst C dL_loads_203 ?_
                    exact jr_zret C B hr hlocks (Or.inl rfl) h dL_loads_204
              · refine jr_ldc (n := -1000001) C q_315 (by decide) dL_loads_167 ?_
                refine lv_goto (tgt := 186) C.1 C.2.1 dL_loads_169 (by decide) ?_
                refine jr_icmp_ne (tgt := 203) C r_x10 (jkc rfl) h dL_loads_186 (by decide) (fun hc186 h => ?_) (fun hc186 h => ?_)
                · refine lv_aload_n C.1 C.2.1 dL_loads_189 rfl (lv_at hl 5 rfl) ?_
                  refine cl_L_look C hl.1 B q_224 ⟨Nat.le_of_ble_eq_true rfl, Nat.le_of_ble_eq_true rfl⟩ ⟨Nat.zero_le _, Nat.zero_le _⟩ (Nat.le_of_ble_eq_true rfl) k_a1 h dL_loads_190 (fun x22 _ _ h B => ?_)
                  refine lv_lload C.1 C.2.1 dL_loads_193 (lv_at hl 4 rfl) ?_
                  refine jr_lcmp C dL_loads_195 ?_
                  refine jr_if_ne (tgt := 203) C (jR_of _) h dL_loads_196 (by decide) (fun hc196 h => ?_) (fun hc196 h => ?_)
                  · refine jr_iconst C dL_loads_199 ?_
                    refine lv_goto (tgt := 204) C.1 C.2.1 dL_loads_200 (by decide) ?_
                    exact jr_zret C B hr hlocks (Or.inr rfl) h dL_loads_204
                  · refine jr_iconst C dL_loads_203 ?_
                    exact jr_zret C B hr hlocks (Or.inl rfl) h dL_loads_204
                · refine jr_iconst C dL_loads_203 ?_
                  exact jr_zret C B hr hlocks (Or.inl rfl) h dL_loads_204)
          refine jr_if_ne (tgt := 155) C (zR z_x6) h dL_loads_140 (by decide) (fun hc140 h => ?_) (fun hc140 h => ?_)
          · refine lv_iload C.1 C.2.1 dL_loads_143 (lv_at hl 6 rfl) ?_
            refine jr_ldc (n := -1000007) C q_313 (by decide) dL_loads_145 ?_
            refine jr_icmp_ne (tgt := 155) C r_x4 (jkc rfl) h dL_loads_147 (by decide) (fun hc147 h => ?_) (fun hc147 h => ?_)
            · refine lv_iload C.1 C.2.1 dL_loads_150 (lv_at hl 4 rfl) ?_
              refine jr_if_eq (tgt := 205) C (zR z_x8) h dL_loads_152 (by decide) (fun hc152 h => ?_) (fun hc152 h => ?_)
              · refine jr_iconst C dL_loads_205 ?_
                refine lv_istore (lv' := [(14, .int (jI 0)), (13, .int (jI x17)), (12, .int (jI x15)), (11, .int (jI x12)), (10, .int (jI x10)), (9, .int (jI x8)), (8, .int (jI x6)), (7, .int (jI x4)), (4, .long x1), (0, .ref (jD G a1)), (2, .int (jI a3))]) C.1 C.2.1 dL_loads_206 hl (by decide) rfl (fun ls hl => ?_)
                refine jr_iconst C dL_loads_208 ?_
                refine lv_istore (lv' := [(15, .int (jI 0)), (14, .int (jI 0)), (13, .int (jI x17)), (12, .int (jI x15)), (11, .int (jI x12)), (10, .int (jI x10)), (9, .int (jI x8)), (8, .int (jI x6)), (7, .int (jI x4)), (4, .long x1), (0, .ref (jD G a1)), (2, .int (jI a3))]) C.1 C.2.1 dL_loads_209 hl (by decide) rfl (fun ls hl => ?_)
                obtain ⟨kx211, hkx211, h⟩ : ∃ kx211 : Int → Prop, (∀ (x25 : Int) (H : Heap) (locs : List Loc) (ls : Array Slot), kx211 x25 → jR x25 → Hp G M16 s.heap H locs → lv_has ls 17 [(14, .int (jI x25)), (13, .int (jI x17)), (12, .int (jI x15)), (11, .int (jI x12)), (10, .int (jI x10))] → W p l e (rmm 8 196) s m args below meth c H locs 0 0 (MQ below (qZ G k) args s 0 0 (gA G)) (F0 m 258 ls [])) ∧ lp_L_loads_211 N a1 a3 M16 kx211 N 0 0 := by
                  refine ⟨_, ?_, h⟩
                  intro x25 H locs ls h r_x25 B hl
                  refine lv_iload C.1 C.2.1 dL_loads_258 (lv_at hl 1 rfl) ?_
                  refine jr_if_eq (tgt := 281) C (zR z_x17) h dL_loads_260 (by decide) (fun hc260 h => ?_) (fun hc260 h => ?_)
                  · refine jr_iconst C dL_loads_281 ?_
                    exact jr_zret C B hr hlocks (Or.inl rfl) h dL_loads_282
                  · refine lv_iload C.1 C.2.1 dL_loads_263 (lv_at hl 4 rfl) ?_
                    refine lv_iload C.1 C.2.1 dL_loads_265 (lv_at hl 0 rfl) ?_
                    refine jr_icmp_ne (tgt := 281) C r_x10 r_x25 h dL_loads_267 (by decide) (fun hc267 h => ?_) (fun hc267 h => ?_)
                    · refine lv_iload C.1 C.2.1 dL_loads_270 (lv_at hl 3 rfl) ?_
                      refine lv_iload C.1 C.2.1 dL_loads_272 (lv_at hl 2 rfl) ?_
                      refine jr_icmp_ne (tgt := 281) C r_x12 r_x15 h dL_loads_274 (by decide) (fun hc274 h => ?_) (fun hc274 h => ?_)
                      · refine jr_iconst C dL_loads_277 ?_
                        refine lv_goto (tgt := 282) C.1 C.2.1 dL_loads_278 (by decide) ?_
                        exact jr_zret C B hr hlocks (Or.inr rfl) h dL_loads_282
                      · refine jr_iconst C dL_loads_281 ?_
                        exact jr_zret C B hr hlocks (Or.inl rfl) h dL_loads_282
                    · refine jr_iconst C dL_loads_281 ?_
                      exact jr_zret C B hr hlocks (Or.inl rfl) h dL_loads_282
                have hL211 : ∀ (n : Nat) (x23 : Int) (x24 : Int) (H : Heap) (locs : List Loc) (ls : Array Slot), lp_L_loads_211 N a1 a3 M16 kx211 n x23 x24 → jR x23 → jR x24 → Hp G M16 s.heap H locs → lv_has ls 17 [(14, .int (jI x23)), (15, .int (jI x24)), (13, .int (jI x17)), (12, .int (jI x15)), (11, .int (jI x12)), (10, .int (jI x10)), (0, .ref (jD G a1)), (2, .int (jI a3))] → W p l e (rmm 8 196) s m args below meth c H locs 0 0 (MQ below (qZ G k) args s 0 0 (gA G)) (F0 m 211 ls []) := by
                  intro n
                  induction n with
                  | zero => intro x23 x24 H locs ls h; exact (show False from h).elim
                  | succ n ih211 =>
                    intro x23 x24 H locs ls h r_x23 r_x24 B hl
                    rw [lp_L_loads_211] at h
                    refine lv_iload C.1 C.2.1 dL_loads_211 (lv_at hl 1 rfl) ?_
                    refine jr_iconst C dL_loads_213 ?_
                    refine jr_icmp_ge (tgt := 258) C r_x24 (jkc rfl) h dL_loads_214 (by decide) (fun hc214 h => ?_) (fun hc214 h => ?_)
                    · refine jr_iconst C dL_loads_217 ?_
                      refine lv_istore (lv' := [(16, .int (jI 0)), (14, .int (jI x23)), (15, .int (jI x24)), (13, .int (jI x17)), (12, .int (jI x15)), (11, .int (jI x12)), (10, .int (jI x10)), (0, .ref (jD G a1)), (2, .int (jI a3))]) C.1 C.2.1 dL_loads_218 hl (by decide) rfl (fun ls hl => ?_)
                      obtain ⟨kx220, hkx220, h⟩ : ∃ kx220 : Int → Prop, (∀ (x28 : Int) (H : Heap) (locs : List Loc) (ls : Array Slot), kx220 x28 → jR x28 → Hp G M16 s.heap H locs → lv_has ls 17 [(14, .int (jI x28)), (15, .int (jI x24)), (13, .int (jI x17)), (12, .int (jI x15)), (11, .int (jI x12)), (10, .int (jI x10)), (0, .ref (jD G a1)), (2, .int (jI a3))] → W p l e (rmm 8 196) s m args below meth c H locs 0 0 (MQ below (qZ G k) args s 0 0 (gA G)) (F0 m 252 ls [])) ∧ lp_L_loads_220 N a1 a3 x24 M16 kx220 N x23 0 := by
                        refine ⟨_, ?_, h⟩
                        intro x28 H locs ls h r_x28 B hl
                        refine jr_iinc (k := 1) (lv' := fun x29 => [(15, .int (jI x29)), (14, .int (jI x28)), (13, .int (jI x17)), (12, .int (jI x15)), (11, .int (jI x12)), (10, .int (jI x10)), (0, .ref (jD G a1)), (2, .int (jI a3))]) C h hl rfl (by decide) (fun _ => rfl) dL_loads_252 (fun x29 h r_x29 ls hl => ?_)
                        refine lv_goto (tgt := 211) C.1 C.2.1 dL_loads_255 (by decide) ?_
                        exact ih211 _ _ _ _ _ h r_x28 r_x29 B (lv_sub hl [1, 0, 2, 3, 4, 5, 6, 7] rfl)
                      have hL220 : ∀ (n : Nat) (x26 : Int) (x27 : Int) (H : Heap) (locs : List Loc) (ls : Array Slot), lp_L_loads_220 N a1 a3 x24 M16 kx220 n x26 x27 → jR x26 → jR x27 → Hp G M16 s.heap H locs → lv_has ls 17 [(14, .int (jI x26)), (16, .int (jI x27)), (15, .int (jI x24)), (13, .int (jI x17)), (12, .int (jI x15)), (11, .int (jI x12)), (10, .int (jI x10)), (0, .ref (jD G a1)), (2, .int (jI a3))] → W p l e (rmm 8 196) s m args below meth c H locs 0 0 (MQ below (qZ G k) args s 0 0 (gA G)) (F0 m 220 ls []) := by
                        intro n
                        induction n with
                        | zero => intro x26 x27 H locs ls h; exact (show False from h).elim
                        | succ n ih220 =>
                          intro x26 x27 H locs ls h r_x26 r_x27 B hl
                          rw [lp_L_loads_220] at h
                          refine lv_iload C.1 C.2.1 dL_loads_220 (lv_at hl 1 rfl) ?_
                          refine lv_aload_n C.1 C.2.1 dL_loads_222 rfl (lv_at hl 7 rfl) ?_
                          refine lv_iload_n C.1 C.2.1 dL_loads_223 rfl (lv_at hl 8 rfl) ?_
                          refine lv_iload C.1 C.2.1 dL_loads_224 (lv_at hl 2 rfl) ?_
                          refine cl_X6_values C hl.1 B q_275 ⟨Nat.le_of_ble_eq_true rfl, Nat.le_of_ble_eq_true rfl⟩ ⟨Nat.zero_le _, Nat.zero_le _⟩ (Nat.le_of_ble_eq_true rfl) k_a1 r_a3 r_x24 h dL_loads_226 (fun x30 r_x30 _ _ h B => ?_)
                          refine jr_icmp_ge (tgt := 252) C r_x27 r_x30 h dL_loads_229 (by decide) (fun hc229 h => ?_) (fun hc229 h => ?_)
                          · refine lv_iload C.1 C.2.1 dL_loads_232 (lv_at hl 0 rfl) ?_
                            refine lv_aload_n C.1 C.2.1 dL_loads_234 rfl (lv_at hl 7 rfl) ?_
                            refine lv_iload_n C.1 C.2.1 dL_loads_235 rfl (lv_at hl 8 rfl) ?_
                            refine lv_iload C.1 C.2.1 dL_loads_236 (lv_at hl 2 rfl) ?_
                            refine lv_iload C.1 C.2.1 dL_loads_238 (lv_at hl 1 rfl) ?_
                            refine cl_X6_subvalues C hl.1 B q_283 ⟨Nat.le_of_ble_eq_true rfl, Nat.le_of_ble_eq_true rfl⟩ ⟨Nat.zero_le _, Nat.zero_le _⟩ (Nat.le_of_ble_eq_true rfl) k_a1 r_a3 r_x24 r_x27 h dL_loads_240 (fun x31 r_x31 _ _ h B => ?_)
                            refine jr_iadd C dL_loads_243 ?_
                            refine jr_nm h (jW_R _) (fun x32 h r_x32 => ?_)
                            refine lv_istore (lv' := [(14, .int (jI x32)), (16, .int (jI x27)), (15, .int (jI x24)), (13, .int (jI x17)), (12, .int (jI x15)), (11, .int (jI x12)), (10, .int (jI x10)), (0, .ref (jD G a1)), (2, .int (jI a3))]) C.1 C.2.1 dL_loads_244 hl (by decide) rfl (fun ls hl => ?_)
                            refine jr_iinc (k := 1) (lv' := fun x33 => [(16, .int (jI x33)), (14, .int (jI x32)), (15, .int (jI x24)), (13, .int (jI x17)), (12, .int (jI x15)), (11, .int (jI x12)), (10, .int (jI x10)), (0, .ref (jD G a1)), (2, .int (jI a3))]) C h hl rfl (by decide) (fun _ => rfl) dL_loads_246 (fun x33 h r_x33 ls hl => ?_)
                            refine lv_goto (tgt := 220) C.1 C.2.1 dL_loads_249 (by decide) ?_
                            exact ih220 _ _ _ _ _ h r_x32 r_x33 B (lv_sub hl [1, 0, 2, 3, 4, 5, 6, 7, 8] rfl)
                          · exact hkx220 _ _ _ _ h r_x26 B (lv_sub hl [0, 2, 3, 4, 5, 6, 7, 8] rfl)
                      exact hL220 N _ _ _ _ _ h r_x23 (jkc rfl) B (lv_sub hl [1, 0, 2, 3, 4, 5, 6, 7, 8] rfl)
                    · exact hkx211 _ _ _ _ h r_x23 B (lv_sub hl [0, 2, 3, 4, 5] rfl)
                exact hL211 N _ _ _ _ _ h (jkc rfl) (jkc rfl) B (lv_sub hl [1, 0, 2, 3, 4, 5, 10, 11] rfl)
              · exact hj140_19 _ _ _ h  B (lv_sub hl [0, 3, 5, 6, 7, 8] rfl)
            · exact hj140_19 _ _ _ h  B (lv_sub hl [0, 3, 5, 6, 7, 8] rfl)
          · exact hj140_19 _ _ _ h  B (lv_sub hl [0, 3, 5, 6, 7, 8] rfl))
        refine jr_if_eq (tgt := 135) C (zR z_x2) h dL_loads_109 (by decide) (fun hc109 h => ?_) (fun hc109 h => ?_)
        · refine jr_iconst C dL_loads_135 ?_
          exact hj109_18 _ _ _ _ h (Or.inl rfl) B (lv_sub hl [0, 1, 2, 3, 4, 5, 7, 8, 9] rfl)
        · refine lv_iload C.1 C.2.1 dL_loads_112 (lv_at hl 5 rfl) ?_
          refine jr_ldc (n := -1000007) C q_313 (by decide) dL_loads_114 ?_
          refine jr_icmp_eq (tgt := 131) C r_x4 (jkc rfl) h dL_loads_116 (by decide) (fun hc116 h => ?_) (fun hc116 h => ?_)
          · refine jr_iconst C dL_loads_131 ?_
            refine lv_goto (tgt := 136) C.1 C.2.1 dL_loads_132 (by decide) ?_
            exact hj109_18 _ _ _ _ h (Or.inr rfl) B (lv_sub hl [0, 1, 2, 3, 4, 5, 7, 8, 9] rfl)
          · refine lv_iload C.1 C.2.1 dL_loads_119 (lv_at hl 5 rfl) ?_
            refine jr_if_lt (tgt := 135) C r_x4 h dL_loads_121 (by decide) (fun hc121 h => ?_) (fun hc121 h => ?_)
            · refine jr_iconst C dL_loads_135 ?_
              exact hj109_18 _ _ _ _ h (Or.inl rfl) B (lv_sub hl [0, 1, 2, 3, 4, 5, 7, 8, 9] rfl)
            · refine lv_iload C.1 C.2.1 dL_loads_124 (lv_at hl 5 rfl) ?_
              refine lv_iload C.1 C.2.1 dL_loads_126 (lv_at hl 0 rfl) ?_
              refine jr_icmp_gt (tgt := 135) C r_x4 r_x15 h dL_loads_128 (by decide) (fun hc128 h => ?_) (fun hc128 h => ?_)
              · refine jr_iconst C dL_loads_131 ?_
                refine lv_goto (tgt := 136) C.1 C.2.1 dL_loads_132 (by decide) ?_
                exact hj109_18 _ _ _ _ h (Or.inr rfl) B (lv_sub hl [0, 1, 2, 3, 4, 5, 7, 8, 9] rfl)
              · refine jr_iconst C dL_loads_135 ?_
                exact hj109_18 _ _ _ _ h (Or.inl rfl) B (lv_sub hl [0, 1, 2, 3, 4, 5, 7, 8, 9] rfl))
      refine jr_if_ne (tgt := 90) C (zR z_x6) h dL_loads_82 (by decide) (fun hc82 h => ?_) (fun hc82 h => ?_)
      · refine lv_iload C.1 C.2.1 dL_loads_85 (lv_at hl 0 rfl) ?_
        refine jr_if_ge (tgt := 94) C r_x10 h dL_loads_87 (by decide) (fun hc87 h => ?_) (fun hc87 h => ?_)
        · refine jr_iconst C dL_loads_90 ?_
          refine lv_goto (tgt := 99) C.1 C.2.1 dL_loads_91 (by decide) ?_
          exact hj82_13 _ _ _ _ _ h (jkc rfl) B (lv_sub hl [0, 1, 2, 3, 4, 5, 6, 8] rfl)
        · refine lv_aload_n C.1 C.2.1 dL_loads_94 rfl (lv_at hl 6 rfl) ?_
          refine lv_iload_n C.1 C.2.1 dL_loads_95 rfl (lv_at hl 8 rfl) ?_
          refine cl_X6_print C hl.1 B q_632 ⟨Nat.le_of_ble_eq_true rfl, Nat.le_of_ble_eq_true rfl⟩ ⟨Nat.zero_le _, Nat.zero_le _⟩ (Nat.le_of_ble_eq_true rfl) k_a1 r_a3 h dL_loads_96 (fun x34 M35 r_x34 _ _ h B => ?_)
          have o_M35 := B.2.2
          exact hj82_13 _ _ _ _ _ h r_x34 B (lv_sub hl [0, 1, 2, 3, 4, 5, 6, 8] rfl)
      · refine jr_iconst C dL_loads_90 ?_
        refine lv_goto (tgt := 99) C.1 C.2.1 dL_loads_91 (by decide) ?_
        exact hj82_13 _ _ _ _ _ h (jkc rfl) B (lv_sub hl [0, 1, 2, 3, 4, 5, 6, 8] rfl))
    refine jr_if_ne (tgt := 69) C (zR z_x6) h dL_loads_43 (by decide) (fun hc43 h => ?_) (fun hc43 h => ?_)
    · refine lv_aload_n C.1 C.2.1 dL_loads_46 rfl (lv_at hl 4 rfl) ?_
      refine lv_iload_n C.1 C.2.1 dL_loads_47 rfl (lv_at hl 6 rfl) ?_
      refine cl_X6_locker C hl.1 B q_267 ⟨Nat.le_of_ble_eq_true rfl, Nat.le_of_ble_eq_true rfl⟩ ⟨Nat.zero_le _, Nat.zero_le _⟩ (Nat.le_of_ble_eq_true rfl) k_a1 r_a3 h dL_loads_48 (fun x36 r_x36 _ _ h B => ?_)
      refine jr_ldc (n := -1000007) C q_313 (by decide) dL_loads_51 ?_
      refine jr_icmp_eq (tgt := 69) C r_x36 (jkc rfl) h dL_loads_53 (by decide) (fun hc53 h => ?_) (fun hc53 h => ?_)
      · refine jr_iconst C dL_loads_69 ?_
        exact hj43_9 _ _ _ _ h (Or.inl rfl) B (lv_sub hl [0, 1, 2, 3, 4, 5, 6] rfl)
      · refine lv_aload_n C.1 C.2.1 dL_loads_56 rfl (lv_at hl 4 rfl) ?_
        refine lv_iload_n C.1 C.2.1 dL_loads_57 rfl (lv_at hl 6 rfl) ?_
        refine cl_X6_locker C hl.1 B q_267 ⟨Nat.le_of_ble_eq_true rfl, Nat.le_of_ble_eq_true rfl⟩ ⟨Nat.zero_le _, Nat.zero_le _⟩ (Nat.le_of_ble_eq_true rfl) k_a1 r_a3 h dL_loads_58 (fun x37 r_x37 _ _ h B => ?_)
        refine lv_iload_n C.1 C.2.1 dL_loads_61 rfl (lv_at hl 5 rfl) ?_
        refine jr_icmp_eq (tgt := 69) C r_x37 r_a2 h dL_loads_62 (by decide) (fun hc62 h => ?_) (fun hc62 h => ?_)
        · refine jr_iconst C dL_loads_69 ?_
          exact hj43_9 _ _ _ _ h (Or.inl rfl) B (lv_sub hl [0, 1, 2, 3, 4, 5, 6] rfl)
        · refine jr_iconst C dL_loads_65 ?_
          refine lv_goto (tgt := 70) C.1 C.2.1 dL_loads_66 (by decide) ?_
          exact hj43_9 _ _ _ _ h (Or.inr rfl) B (lv_sub hl [0, 1, 2, 3, 4, 5, 6] rfl)
    · refine jr_iconst C dL_loads_69 ?_
      exact hj43_9 _ _ _ _ h (Or.inl rfl) B (lv_sub hl [0, 1, 2, 3, 4, 5, 6] rfl))
  refine jr_icmp_gt (tgt := 34) C r_a2 (jkc rfl) h dL_loads_21 (by decide) (fun hc21 h => ?_) (fun hc21 h => ?_)
  · refine lv_aload_n C.1 C.2.1 dL_loads_24 rfl (lv_at hl 3 rfl) ?_
    refine lv_iload_n C.1 C.2.1 dL_loads_25 rfl (lv_at hl 5 rfl) ?_
    refine cl_X6_locker C hl.1 B q_267 ⟨Nat.le_of_ble_eq_true rfl, Nat.le_of_ble_eq_true rfl⟩ ⟨Nat.zero_le _, Nat.zero_le _⟩ (Nat.le_of_ble_eq_true rfl) k_a1 r_a3 h dL_loads_26 (fun x38 r_x38 _ _ h B => ?_)
    refine jr_ldc (n := -1000001) C q_315 (by decide) dL_loads_29 ?_
    refine jr_icmp_ne (tgt := 38) C r_x38 (jkc rfl) h dL_loads_31 (by decide) (fun hc31 h => ?_) (fun hc31 h => ?_)
    · refine jr_iconst C dL_loads_34 ?_
      refine lv_goto (tgt := 39) C.1 C.2.1 dL_loads_35 (by decide) ?_
      exact hj21_7 _ _ _ _ h (Or.inr rfl) B (lv_sub hl [0, 1, 2, 3, 4, 5] rfl)
    · refine jr_iconst C dL_loads_38 ?_
      exact hj21_7 _ _ _ _ h (Or.inl rfl) B (lv_sub hl [0, 1, 2, 3, 4, 5] rfl)
  · refine jr_iconst C dL_loads_34 ?_
    refine lv_goto (tgt := 39) C.1 C.2.1 dL_loads_35 (by decide) ?_
    exact hj21_7 _ _ _ _ h (Or.inr rfl) B (lv_sub hl [0, 1, 2, 3, 4, 5] rfl)
theorem cl_L_loads {p : Program} {l : Launch} {e : Env} {R : Room} {s : State} {m : MethodId} {args : Array Value} {below : List Frame} {meth : Method} {c : Code} {H : Heap} {locs : List Loc} {cells slots : Nat} {Q : State → Prop} {cc : ByteArray} {nL : Nat} {own : String} {G : jG} {H0 : Heap} {pc idx : Nat} {ls : Array Slot} {rest : List Value} {N : Nat} {M : jM} {a1 a2 a3 a4 : Int} {k : Int → jM → Prop} (C : Cx G p s args m c cc nL own) (hl : ls.size = nL) (B : Hp G M H0 H locs) (q1 : Cond.methodLink own idx yL_loads ∈ tb) (hR : (rmm 8 196).frames + 1 ≤ R.frames ∧ 8 + (17 + 11) + (rmm 8 196).locals ≤ R.locals) (hcs : cells ≤ R.cells ∧ slots ≤ R.slots) (hW : (rest.map fun v => v.category).sum ≤ 8) (k_a1 : jK a1 = 7) (r_a2 : jR a2) (r_a3 : jR a3) (r_a4 : jR a4) (h : w_L_loads N M a1 a2 a3 a4 k) (hdg : decode cc pc = .ok (.invokestatic idx, 3)) (kk : ∀ (r : Int) (M' : jM), (r = 0 ∨ r = 1) → ∀ (H1 : Heap) (locs1 : List Loc), k r M' → Hp G M' H0 H1 locs1 → W p l e R s m args below meth c H1 locs1 cells slots Q (F0 m (pc + 3) ls (.int (jI r) :: rest))) : W p l e R s m args below meth c H locs cells slots Q (F0 m pc ls (.int (jI a4) :: .int (jI a3) :: .int (jI a2) :: .ref (jD G a1) :: rest)) :=
  jr_callZ B (jr_runS (As := [.ref (jD G a1), .int (jI a2), .int (jI a3), .int (jI a4)]) (n := 4) C hl B (m_L_loads B.2.2 k_a1 r_a2 r_a3 r_a4 h) q1 q_535 q_536 q_0 ⟨by decide, by decide, by decide +kernel⟩ rfl ⟨rfl, rfl⟩ hR hcs rfl hW hdg) (fun r M' H1 locs1 hr hk B1 => kk r M' hr H1 locs1 hk B1)
