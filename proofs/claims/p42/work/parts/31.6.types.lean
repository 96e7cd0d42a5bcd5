def lp_L_types_107 (a1 : Int) (a2 : Int) (x9 : Int) (x18 : Int) (kx107 : Int → jM → Prop) : Nat → Int → Int → jM → Prop
  | 0, _, _, _ => False
  | n + 1, x22, x23, M24 => (if x23 < x18 then (jL (jShr a2 (jW (x9 + (jW (2 * x23))))) (fun x28 => (if x22 = 0 then (jL (jW (x23 + 1)) (fun x29 => (lp_L_types_107 a1 a2 x9 x18 kx107 n 0 x29 M24))) else (if x23 = 0 then (w_L_low x28 9 (fun x30 => (w_L_digits M24 a1 (jW (x30 - 4)) (fun x31 M32 => (if x31 = 0 then (jL (jW (x23 + 1)) (fun x33 => (lp_L_types_107 a1 a2 x9 x18 kx107 n 0 x33 M32))) else (w_L_low (jShr x28 3) 3 (fun x34 => (if x34 ≤ 0 then (w_X6_append M32 a1 47 (fun x35 M36 => (if x35 ≤ 0 then (jL (jW (x23 + 1)) (fun x37 => (lp_L_types_107 a1 a2 x9 x18 kx107 n 0 x37 M36))) else (w_L_low (jShr x28 1) 9 (fun x38 => (w_L_digits M36 a1 (jW (x38 - 4)) (fun x39 M40 => (if x39 = 0 then (jL (jW (x23 + 1)) (fun x41 => (lp_L_types_107 a1 a2 x9 x18 kx107 n 0 x41 M40))) else (jL (jW (x23 + 1)) (fun x42 => (lp_L_types_107 a1 a2 x9 x18 kx107 n 1 x42 M40))))))))))) else (jL (jW (x23 + 1)) (fun x43 => (lp_L_types_107 a1 a2 x9 x18 kx107 n 1 x43 M32))))))))))) else (w_X6_append M24 a1 93 (fun x44 M45 => (if x44 ≤ 0 then (jL (jW (x23 + 1)) (fun x46 => (lp_L_types_107 a1 a2 x9 x18 kx107 n 0 x46 M45))) else (w_L_low x28 9 (fun x47 => (w_L_digits M45 a1 (jW (x47 - 4)) (fun x48 M49 => (if x48 = 0 then (jL (jW (x23 + 1)) (fun x50 => (lp_L_types_107 a1 a2 x9 x18 kx107 n 0 x50 M49))) else (w_L_low (jShr x28 3) 3 (fun x51 => (if x51 ≤ 0 then (w_X6_append M49 a1 47 (fun x52 M53 => (if x52 ≤ 0 then (jL (jW (x23 + 1)) (fun x54 => (lp_L_types_107 a1 a2 x9 x18 kx107 n 0 x54 M53))) else (w_L_low (jShr x28 1) 9 (fun x55 => (w_L_digits M53 a1 (jW (x55 - 4)) (fun x56 M57 => (if x56 = 0 then (jL (jW (x23 + 1)) (fun x58 => (lp_L_types_107 a1 a2 x9 x18 kx107 n 0 x58 M57))) else (jL (jW (x23 + 1)) (fun x59 => (lp_L_types_107 a1 a2 x9 x18 kx107 n 1 x59 M57))))))))))) else (jL (jW (x23 + 1)) (fun x60 => (lp_L_types_107 a1 a2 x9 x18 kx107 n 1 x60 M49)))))))))))))))))) else (kx107 x22 M24))
def lp_L_types_40 (N : Nat) (a1 : Int) (a2 : Int) (x2 : Int) (kx40 : Int → jM → Prop) : Nat → Int → Int → jM → Prop
  | 0, _, _, _ => False
  | n + 1, x8, x9, M10 => (if x9 < x2 then (jL (fun (x16 : Int) => (w_L_low (jShr a2 (jW (2 * x9))) x16 (fun x18 => (jL (fun (x19 : Int) (M21 : jM) => (lp_L_types_107 a1 a2 x9 x18 (fun (x25 : Int) (M26 : jM) => (jL (jW (x9 + 1)) (fun x27 => (lp_L_types_40 N a1 a2 x2 kx40 n x25 x27 M26)))) N x19 0 M21)) (fun j81_20 => (if x8 = 0 then (j81_20 0 M10) else (if x9 = 0 then (j81_20 1 M10) else (w_X6_append M10 a1 94 (fun x61 M62 => (if x61 ≤ 0 then (j81_20 0 M62) else (j81_20 1 M62))))))))))) (fun j54_17 => (if x9 = 0 then (w_L_low (jShr a2 22) 9 (fun x63 => (if x63 = 0 then (j54_17 7) else (j54_17 3)))) else (j54_17 3)))) else (kx40 x8 M10))
def w_L_types (N : Nat) (M : jM) (a1 : Int) (a2 : Int) (k : Int → jM → Prop) : Prop := (w_L_low (jShr a2 24) 9 (fun x1 => (jL (fun (x2 : Int) => (w_X6_clearText M a1 (fun x4 M5 => (jL (fun (x6 : Int) => (lp_L_types_40 N a1 a2 x2 (fun (x11 : Int) (M12 : jM) => (if x11 = 0 then (k 0 M12) else (w_L_low (jShr a2 26) 6 (fun x13 => (if x13 ≤ 0 then (w_X6_append M12 a1 45 (fun x14 M15 => (if x14 ≤ 0 then (k 0 M15) else (k 1 M15)))) else (k 1 M12)))))) N x6 0 M5)) (fun j28_7 => (if x4 < 0 then (j28_7 0) else (j28_7 1))))))) (fun j9_3 => (if x1 = 0 then (w_L_low a2 3 (fun x64 => (j9_3 (jW (3 + x64))))) else (j9_3 4))))))
set_option maxHeartbeats 4000000 in
set_option maxRecDepth 100000 in
theorem m_L_types {l : Launch} {G : jG} {N : Nat} {M : jM} {a1 a2 : Int} {k : Int → jM → Prop} (o_M : jOK M) (k_a1 : jK a1 = 7) (r_a2 : jR a2) (h : w_L_types N M a1 a2 k) : Met l yL_types (wsG yL_types cL_types 8 (some .boolean)) (rmm 3 64) (jPc G M [.ref (jD G a1), .int (jI a2)]) (qZ G k) 0 0 (gA G) := by
  refine jm_start RL rfl (by decide) (Nat.le_of_ble_eq_true rfl) o_M ?_
  intro p e s m args below meth c ls C hr hlocks hl B
  have hl : lv_has ls 8 [(0, .ref (jD G a1)), (1, .int (jI a2))] := hl
  unfold w_L_types at h
  refine lv_iload_n C.1 C.2.1 dL_types_0 rfl (lv_at hl 1 rfl) ?_
  refine jr_bipush C dL_types_1 (by decide) ?_
  refine jr_ishr C dL_types_3 ?_
  refine jr_bipush C dL_types_4 (by decide) ?_
  refine cl_L_low C hl.1 B q_220 ⟨Nat.le_of_ble_eq_true rfl, Nat.le_of_ble_eq_true rfl⟩ ⟨Nat.zero_le _, Nat.zero_le _⟩ (Nat.le_of_ble_eq_true rfl) (jShr_R _ _) (jkc rfl) h dL_types_6 (fun x1 r_x1 _ _ h B => ?_)
  obtain ⟨j9_3, hj9_3, h⟩ := jx_join (P := fun j9_3 : Int → Prop => ∀ (x2 : Int) (H : Heap) (locs : List Loc) (ls : Array Slot), j9_3 x2 → jR x2 → Hp G M s.heap H locs → lv_has ls 8 [(0, .ref (jD G a1)), (1, .int (jI a2))] → W p l e (rmm 3 64) s m args below meth c H locs 0 0 (MQ below (qZ G k) args s 0 0 (gA G)) (F0 m 23 ls [.int (jI x2)])) h (by
    intro x2 H locs ls h r_x2 B hl
    refine lv_istore_n (lv' := [(2, .int (jI x2)), (0, .ref (jD G a1)), (1, .int (jI a2))]) C.1 C.2.1 dL_types_23 rfl hl (by decide) rfl (fun ls hl => ?_)
    refine lv_aload_n C.1 C.2.1 dL_types_24 rfl (lv_at hl 1 rfl) ?_
    refine cl_X6_clearText C hl.1 B q_540 ⟨Nat.le_of_ble_eq_true rfl, Nat.le_of_ble_eq_true rfl⟩ ⟨Nat.zero_le _, Nat.zero_le _⟩ (Nat.le_of_ble_eq_true rfl) k_a1 h dL_types_25 (fun x4 M5 r_x4 _ _ h B => ?_)
    have o_M5 := B.2.2
    obtain ⟨j28_7, hj28_7, h⟩ := jx_join (P := fun j28_7 : Int → Prop => ∀ (x6 : Int) (H : Heap) (locs : List Loc) (ls : Array Slot), j28_7 x6 → (x6 = 0 ∨ x6 = 1) → Hp G M5 s.heap H locs → lv_has ls 8 [(2, .int (jI x2)), (0, .ref (jD G a1)), (1, .int (jI a2))] → W p l e (rmm 3 64) s m args below meth c H locs 0 0 (MQ below (qZ G k) args s 0 0 (gA G)) (F0 m 36 ls [.int (jI x6)])) h (by
      intro x6 H locs ls h z_x6 B hl
      refine lv_istore_n (lv' := [(3, .int (jI x6)), (2, .int (jI x2)), (0, .ref (jD G a1)), (1, .int (jI a2))]) C.1 C.2.1 dL_types_36 rfl hl (by decide) rfl (fun ls hl => ?_)
      refine jr_iconst C dL_types_37 ?_
      refine lv_istore (lv' := [(4, .int (jI 0)), (3, .int (jI x6)), (2, .int (jI x2)), (0, .ref (jD G a1)), (1, .int (jI a2))]) C.1 C.2.1 dL_types_38 hl (by decide) rfl (fun ls hl => ?_)
      obtain ⟨kx40, hkx40, h⟩ : ∃ kx40 : Int → jM → Prop, (∀ (x11 : Int) (M12 : jM) (H : Heap) (locs : List Loc) (ls : Array Slot), kx40 x11 M12 → (x11 = 0 ∨ x11 = 1) → Hp G M12 s.heap H locs → lv_has ls 8 [(3, .int (jI x11)), (0, .ref (jD G a1)), (1, .int (jI a2))] → W p l e (rmm 3 64) s m args below meth c H locs 0 0 (MQ below (qZ G k) args s 0 0 (gA G)) (F0 m 215 ls [])) ∧ lp_L_types_40 N a1 a2 x2 kx40 N x6 0 M5 := by
        refine ⟨_, ?_, h⟩
        intro x11 M12 H locs ls h z_x11 B hl
        have o_M12 := B.2.2
        refine lv_iload_n C.1 C.2.1 dL_types_215 rfl (lv_at hl 0 rfl) ?_
        refine jr_if_eq (tgt := 244) C (zR z_x11) h dL_types_216 (by decide) (fun hc216 h => ?_) (fun hc216 h => ?_)
        · refine jr_iconst C dL_types_244 ?_
          exact jr_zret C B hr hlocks (Or.inl rfl) h dL_types_245
        · refine lv_iload_n C.1 C.2.1 dL_types_219 rfl (lv_at hl 2 rfl) ?_
          refine jr_bipush C dL_types_220 (by decide) ?_
          refine jr_ishr C dL_types_222 ?_
          refine jr_bipush C dL_types_223 (by decide) ?_
          refine cl_L_low C hl.1 B q_220 ⟨Nat.le_of_ble_eq_true rfl, Nat.le_of_ble_eq_true rfl⟩ ⟨Nat.zero_le _, Nat.zero_le _⟩ (Nat.le_of_ble_eq_true rfl) (jShr_R _ _) (jkc rfl) h dL_types_225 (fun x13 r_x13 _ _ h B => ?_)
          refine jr_if_gt (tgt := 240) C r_x13 h dL_types_228 (by decide) (fun hc228 h => ?_) (fun hc228 h => ?_)
          · refine lv_aload_n C.1 C.2.1 dL_types_231 rfl (lv_at hl 1 rfl) ?_
            refine jr_bipush C dL_types_232 (by decide) ?_
            refine cl_X6_append C hl.1 B q_544 ⟨Nat.le_of_ble_eq_true rfl, Nat.le_of_ble_eq_true rfl⟩ ⟨Nat.zero_le _, Nat.zero_le _⟩ (Nat.le_of_ble_eq_true rfl) k_a1 (jkc rfl) h dL_types_234 (fun x14 M15 r_x14 _ _ h B => ?_)
            have o_M15 := B.2.2
            refine jr_if_le (tgt := 244) C r_x14 h dL_types_237 (by decide) (fun hc237 h => ?_) (fun hc237 h => ?_)
            · refine jr_iconst C dL_types_244 ?_
              exact jr_zret C B hr hlocks (Or.inl rfl) h dL_types_245
            · refine jr_iconst C dL_types_240 ?_
              refine lv_goto (tgt := 245) C.1 C.2.1 dL_types_241 (by decide) ?_
              exact jr_zret C B hr hlocks (Or.inr rfl) h dL_types_245
          · refine jr_iconst C dL_types_240 ?_
            refine lv_goto (tgt := 245) C.1 C.2.1 dL_types_241 (by decide) ?_
            exact jr_zret C B hr hlocks (Or.inr rfl) h dL_types_245
      have hL40 : ∀ (n : Nat) (x8 : Int) (x9 : Int) (M10 : jM) (H : Heap) (locs : List Loc) (ls : Array Slot), lp_L_types_40 N a1 a2 x2 kx40 n x8 x9 M10 → (x8 = 0 ∨ x8 = 1) → jR x9 → Hp G M10 s.heap H locs → lv_has ls 8 [(3, .int (jI x8)), (4, .int (jI x9)), (2, .int (jI x2)), (0, .ref (jD G a1)), (1, .int (jI a2))] → W p l e (rmm 3 64) s m args below meth c H locs 0 0 (MQ below (qZ G k) args s 0 0 (gA G)) (F0 m 40 ls []) := by
        intro n
        induction n with
        | zero => intro x8 x9 M10 H locs ls h; exact (show False from h).elim
        | succ n ih40 =>
          intro x8 x9 M10 H locs ls h z_x8 r_x9 B hl
          have o_M10 := B.2.2
          rw [lp_L_types_40] at h
          refine lv_iload C.1 C.2.1 dL_types_40 (lv_at hl 1 rfl) ?_
          refine lv_iload_n C.1 C.2.1 dL_types_42 rfl (lv_at hl 2 rfl) ?_
          refine jr_icmp_ge (tgt := 215) C r_x9 r_x2 h dL_types_43 (by decide) (fun hc43 h => ?_) (fun hc43 h => ?_)
          · refine lv_iload_n C.1 C.2.1 dL_types_46 rfl (lv_at hl 4 rfl) ?_
            refine jr_iconst C dL_types_47 ?_
            refine lv_iload C.1 C.2.1 dL_types_48 (lv_at hl 1 rfl) ?_
            refine jr_imul C dL_types_50 ?_
            refine jr_ishr C dL_types_51 ?_
            refine lv_iload C.1 C.2.1 dL_types_52 (lv_at hl 1 rfl) ?_
            obtain ⟨j54_17, hj54_17, h⟩ := jx_join (P := fun j54_17 : Int → Prop => ∀ (x16 : Int) (H : Heap) (locs : List Loc) (ls : Array Slot), j54_17 x16 → jR x16 → Hp G M10 s.heap H locs → lv_has ls 8 [(3, .int (jI x8)), (4, .int (jI x9)), (2, .int (jI x2)), (0, .ref (jD G a1)), (1, .int (jI a2))] → W p l e (rmm 3 64) s m args below meth c H locs 0 0 (MQ below (qZ G k) args s 0 0 (gA G)) (F0 m 75 ls [.int (jI x16), .int (jI (jShr a2 (jW (2 * x9))))])) h (by
              intro x16 H locs ls h r_x16 B hl
              refine cl_L_low C hl.1 B q_220 ⟨Nat.le_of_ble_eq_true rfl, Nat.le_of_ble_eq_true rfl⟩ ⟨Nat.zero_le _, Nat.zero_le _⟩ (Nat.le_of_ble_eq_true rfl) (jShr_R _ _) r_x16 h dL_types_75 (fun x18 r_x18 _ _ h B => ?_)
              refine lv_istore (lv' := [(5, .int (jI x18)), (3, .int (jI x8)), (4, .int (jI x9)), (2, .int (jI x2)), (0, .ref (jD G a1)), (1, .int (jI a2))]) C.1 C.2.1 dL_types_78 hl (by decide) rfl (fun ls hl => ?_)
              refine lv_iload_n C.1 C.2.1 dL_types_80 rfl (lv_at hl 1 rfl) ?_
              obtain ⟨j81_20, hj81_20, h⟩ := jx_join (P := fun j81_20 : Int → jM → Prop => ∀ (x19 : Int) (M21 : jM) (H : Heap) (locs : List Loc) (ls : Array Slot), j81_20 x19 M21 → (x19 = 0 ∨ x19 = 1) → Hp G M21 s.heap H locs → lv_has ls 8 [(5, .int (jI x18)), (4, .int (jI x9)), (2, .int (jI x2)), (0, .ref (jD G a1)), (1, .int (jI a2))] → W p l e (rmm 3 64) s m args below meth c H locs 0 0 (MQ below (qZ G k) args s 0 0 (gA G)) (F0 m 103 ls [.int (jI x19)])) h (by
                intro x19 M21 H locs ls h z_x19 B hl
                have o_M21 := B.2.2
                refine lv_istore_n (lv' := [(3, .int (jI x19)), (5, .int (jI x18)), (4, .int (jI x9)), (2, .int (jI x2)), (0, .ref (jD G a1)), (1, .int (jI a2))]) C.1 C.2.1 dL_types_103 rfl hl (by decide) rfl (fun ls hl => ?_)
                refine jr_iconst C dL_types_104 ?_
                refine lv_istore (lv' := [(6, .int (jI 0)), (3, .int (jI x19)), (5, .int (jI x18)), (4, .int (jI x9)), (2, .int (jI x2)), (0, .ref (jD G a1)), (1, .int (jI a2))]) C.1 C.2.1 dL_types_105 hl (by decide) rfl (fun ls hl => ?_)
                obtain ⟨kx107, hkx107, h⟩ : ∃ kx107 : Int → jM → Prop, (∀ (x25 : Int) (M26 : jM) (H : Heap) (locs : List Loc) (ls : Array Slot), kx107 x25 M26 → (x25 = 0 ∨ x25 = 1) → Hp G M26 s.heap H locs → lv_has ls 8 [(3, .int (jI x25)), (4, .int (jI x9)), (2, .int (jI x2)), (0, .ref (jD G a1)), (1, .int (jI a2))] → W p l e (rmm 3 64) s m args below meth c H locs 0 0 (MQ below (qZ G k) args s 0 0 (gA G)) (F0 m 209 ls [])) ∧ lp_L_types_107 a1 a2 x9 x18 kx107 N x19 0 M21 := by
                  refine ⟨_, ?_, h⟩
                  intro x25 M26 H locs ls h z_x25 B hl
                  have o_M26 := B.2.2
                  refine jr_iinc (k := 1) (lv' := fun x27 => [(4, .int (jI x27)), (3, .int (jI x25)), (2, .int (jI x2)), (0, .ref (jD G a1)), (1, .int (jI a2))]) C h hl rfl (by decide) (fun _ => rfl) dL_types_209 (fun x27 h r_x27 ls hl => ?_)
                  refine lv_goto (tgt := 40) C.1 C.2.1 dL_types_212 (by decide) ?_
                  exact ih40 _ _ _ _ _ _ h z_x25 r_x27 B (lv_sub hl [1, 0, 2, 3, 4] rfl)
                have hL107 : ∀ (n : Nat) (x22 : Int) (x23 : Int) (M24 : jM) (H : Heap) (locs : List Loc) (ls : Array Slot), lp_L_types_107 a1 a2 x9 x18 kx107 n x22 x23 M24 → (x22 = 0 ∨ x22 = 1) → jR x23 → Hp G M24 s.heap H locs → lv_has ls 8 [(3, .int (jI x22)), (6, .int (jI x23)), (5, .int (jI x18)), (4, .int (jI x9)), (2, .int (jI x2)), (0, .ref (jD G a1)), (1, .int (jI a2))] → W p l e (rmm 3 64) s m args below meth c H locs 0 0 (MQ below (qZ G k) args s 0 0 (gA G)) (F0 m 107 ls []) := by
                  intro n
                  induction n with
                  | zero => intro x22 x23 M24 H locs ls h; exact (show False from h).elim
                  | succ n ih107 =>
                    intro x22 x23 M24 H locs ls h z_x22 r_x23 B hl
                    have o_M24 := B.2.2
                    rw [lp_L_types_107] at h
                    refine lv_iload C.1 C.2.1 dL_types_107 (lv_at hl 1 rfl) ?_
                    refine lv_iload C.1 C.2.1 dL_types_109 (lv_at hl 2 rfl) ?_
                    refine jr_icmp_ge (tgt := 209) C r_x23 r_x18 h dL_types_111 (by decide) (fun hc111 h => ?_) (fun hc111 h => ?_)
                    · refine lv_iload_n C.1 C.2.1 dL_types_114 rfl (lv_at hl 6 rfl) ?_
                      refine lv_iload C.1 C.2.1 dL_types_115 (lv_at hl 3 rfl) ?_
                      refine jr_iconst C dL_types_117 ?_
                      refine lv_iload C.1 C.2.1 dL_types_118 (lv_at hl 1 rfl) ?_
                      refine jr_imul C dL_types_120 ?_
                      refine jr_iadd C dL_types_121 ?_
                      refine jr_ishr C dL_types_122 ?_
                      refine jr_nm h (jShr_R _ _) (fun x28 h r_x28 => ?_)
                      refine lv_istore (lv' := [(7, .int (jI x28)), (3, .int (jI x22)), (6, .int (jI x23)), (5, .int (jI x18)), (4, .int (jI x9)), (2, .int (jI x2)), (0, .ref (jD G a1)), (1, .int (jI a2))]) C.1 C.2.1 dL_types_123 hl (by decide) rfl (fun ls hl => ?_)
                      refine lv_iload_n C.1 C.2.1 dL_types_125 rfl (lv_at hl 1 rfl) ?_
                      refine jr_if_eq (tgt := 201) C (zR z_x22) h dL_types_126 (by decide) (fun hc126 h => ?_) (fun hc126 h => ?_)
                      · refine jr_iconst C dL_types_201 ?_
                        refine lv_istore_n (lv' := [(3, .int (jI 0)), (7, .int (jI x28)), (6, .int (jI x23)), (5, .int (jI x18)), (4, .int (jI x9)), (2, .int (jI x2)), (0, .ref (jD G a1)), (1, .int (jI a2))]) C.1 C.2.1 dL_types_202 rfl hl (by decide) rfl (fun ls hl => ?_)
                        refine jr_iinc (k := 2) (lv' := fun x29 => [(6, .int (jI x29)), (3, .int (jI 0)), (7, .int (jI x28)), (5, .int (jI x18)), (4, .int (jI x9)), (2, .int (jI x2)), (0, .ref (jD G a1)), (1, .int (jI a2))]) C h hl rfl (by decide) (fun _ => rfl) dL_types_203 (fun x29 h r_x29 ls hl => ?_)
                        refine lv_goto (tgt := 107) C.1 C.2.1 dL_types_206 (by decide) ?_
                        exact ih107 _ _ _ _ _ _ h (Or.inl rfl) r_x29 B (lv_sub hl [1, 0, 3, 4, 5, 6, 7] rfl)
                      · refine lv_iload C.1 C.2.1 dL_types_129 (lv_at hl 2 rfl) ?_
                        refine jr_if_eq (tgt := 143) C r_x23 h dL_types_131 (by decide) (fun hc131 h => ?_) (fun hc131 h => ?_)
                        · refine lv_aload_n C.1 C.2.1 dL_types_143 rfl (lv_at hl 6 rfl) ?_
                          refine lv_iload C.1 C.2.1 dL_types_144 (lv_at hl 0 rfl) ?_
                          refine jr_bipush C dL_types_146 (by decide) ?_
                          refine cl_L_low C hl.1 B q_220 ⟨Nat.le_of_ble_eq_true rfl, Nat.le_of_ble_eq_true rfl⟩ ⟨Nat.zero_le _, Nat.zero_le _⟩ (Nat.le_of_ble_eq_true rfl) r_x28 (jkc rfl) h dL_types_148 (fun x30 r_x30 _ _ h B => ?_)
                          refine jr_iconst C dL_types_151 ?_
                          refine jr_isub C dL_types_152 ?_
                          refine cl_L_digits C hl.1 B q_552 ⟨Nat.le_of_ble_eq_true rfl, Nat.le_of_ble_eq_true rfl⟩ ⟨Nat.zero_le _, Nat.zero_le _⟩ (Nat.le_of_ble_eq_true rfl) k_a1 (jW_R _) h dL_types_153 (fun x31 M32 z_x31 _ _ h B => ?_)
                          have o_M32 := B.2.2
                          refine jr_if_eq (tgt := 201) C (zR z_x31) h dL_types_156 (by decide) (fun hc156 h => ?_) (fun hc156 h => ?_)
                          · refine jr_iconst C dL_types_201 ?_
                            refine lv_istore_n (lv' := [(3, .int (jI 0)), (7, .int (jI x28)), (6, .int (jI x23)), (5, .int (jI x18)), (4, .int (jI x9)), (2, .int (jI x2)), (0, .ref (jD G a1)), (1, .int (jI a2))]) C.1 C.2.1 dL_types_202 rfl hl (by decide) rfl (fun ls hl => ?_)
                            refine jr_iinc (k := 2) (lv' := fun x33 => [(6, .int (jI x33)), (3, .int (jI 0)), (7, .int (jI x28)), (5, .int (jI x18)), (4, .int (jI x9)), (2, .int (jI x2)), (0, .ref (jD G a1)), (1, .int (jI a2))]) C h hl rfl (by decide) (fun _ => rfl) dL_types_203 (fun x33 h r_x33 ls hl => ?_)
                            refine lv_goto (tgt := 107) C.1 C.2.1 dL_types_206 (by decide) ?_
                            exact ih107 _ _ _ _ _ _ h (Or.inl rfl) r_x33 B (lv_sub hl [1, 0, 3, 4, 5, 6, 7] rfl)
                          · refine lv_iload C.1 C.2.1 dL_types_159 (lv_at hl 0 rfl) ?_
                            refine jr_iconst C dL_types_161 ?_
                            refine jr_ishr C dL_types_162 ?_
                            refine jr_iconst C dL_types_163 ?_
                            refine cl_L_low C hl.1 B q_220 ⟨Nat.le_of_ble_eq_true rfl, Nat.le_of_ble_eq_true rfl⟩ ⟨Nat.zero_le _, Nat.zero_le _⟩ (Nat.le_of_ble_eq_true rfl) (jShr_R _ _) (jkc rfl) h dL_types_164 (fun x34 r_x34 _ _ h B => ?_)
                            refine jr_if_gt (tgt := 197) C r_x34 h dL_types_167 (by decide) (fun hc167 h => ?_) (fun hc167 h => ?_)
                            · refine lv_aload_n C.1 C.2.1 dL_types_170 rfl (lv_at hl 6 rfl) ?_
                              refine jr_bipush C dL_types_171 (by decide) ?_
                              refine cl_X6_append C hl.1 B q_544 ⟨Nat.le_of_ble_eq_true rfl, Nat.le_of_ble_eq_true rfl⟩ ⟨Nat.zero_le _, Nat.zero_le _⟩ (Nat.le_of_ble_eq_true rfl) k_a1 (jkc rfl) h dL_types_173 (fun x35 M36 r_x35 _ _ h B => ?_)
                              have o_M36 := B.2.2
                              refine jr_if_le (tgt := 201) C r_x35 h dL_types_176 (by decide) (fun hc176 h => ?_) (fun hc176 h => ?_)
                              · refine jr_iconst C dL_types_201 ?_
                                refine lv_istore_n (lv' := [(3, .int (jI 0)), (7, .int (jI x28)), (6, .int (jI x23)), (5, .int (jI x18)), (4, .int (jI x9)), (2, .int (jI x2)), (0, .ref (jD G a1)), (1, .int (jI a2))]) C.1 C.2.1 dL_types_202 rfl hl (by decide) rfl (fun ls hl => ?_)
                                refine jr_iinc (k := 2) (lv' := fun x37 => [(6, .int (jI x37)), (3, .int (jI 0)), (7, .int (jI x28)), (5, .int (jI x18)), (4, .int (jI x9)), (2, .int (jI x2)), (0, .ref (jD G a1)), (1, .int (jI a2))]) C h hl rfl (by decide) (fun _ => rfl) dL_types_203 (fun x37 h r_x37 ls hl => ?_)
                                refine lv_goto (tgt := 107) C.1 C.2.1 dL_types_206 (by decide) ?_
                                exact ih107 _ _ _ _ _ _ h (Or.inl rfl) r_x37 B (lv_sub hl [1, 0, 3, 4, 5, 6, 7] rfl)
                              · refine lv_aload_n C.1 C.2.1 dL_types_179 rfl (lv_at hl 6 rfl) ?_
                                refine lv_iload C.1 C.2.1 dL_types_180 (lv_at hl 0 rfl) ?_
                                refine jr_iconst C dL_types_182 ?_
                                refine jr_ishr C dL_types_183 ?_
                                refine jr_bipush C dL_types_184 (by decide) ?_
                                refine cl_L_low C hl.1 B q_220 ⟨Nat.le_of_ble_eq_true rfl, Nat.le_of_ble_eq_true rfl⟩ ⟨Nat.zero_le _, Nat.zero_le _⟩ (Nat.le_of_ble_eq_true rfl) (jShr_R _ _) (jkc rfl) h dL_types_186 (fun x38 r_x38 _ _ h B => ?_)
                                refine jr_iconst C dL_types_189 ?_
                                refine jr_isub C dL_types_190 ?_
                                refine cl_L_digits C hl.1 B q_552 ⟨Nat.le_of_ble_eq_true rfl, Nat.le_of_ble_eq_true rfl⟩ ⟨Nat.zero_le _, Nat.zero_le _⟩ (Nat.le_of_ble_eq_true rfl) k_a1 (jW_R _) h dL_types_191 (fun x39 M40 z_x39 _ _ h B => ?_)
                                have o_M40 := B.2.2
                                refine jr_if_eq (tgt := 201) C (zR z_x39) h dL_types_194 (by decide) (fun hc194 h => ?_) (fun hc194 h => ?_)
                                · refine jr_iconst C dL_types_201 ?_
                                  refine lv_istore_n (lv' := [(3, .int (jI 0)), (7, .int (jI x28)), (6, .int (jI x23)), (5, .int (jI x18)), (4, .int (jI x9)), (2, .int (jI x2)), (0, .ref (jD G a1)), (1, .int (jI a2))]) C.1 C.2.1 dL_types_202 rfl hl (by decide) rfl (fun ls hl => ?_)
                                  refine jr_iinc (k := 2) (lv' := fun x41 => [(6, .int (jI x41)), (3, .int (jI 0)), (7, .int (jI x28)), (5, .int (jI x18)), (4, .int (jI x9)), (2, .int (jI x2)), (0, .ref (jD G a1)), (1, .int (jI a2))]) C h hl rfl (by decide) (fun _ => rfl) dL_types_203 (fun x41 h r_x41 ls hl => ?_)
                                  refine lv_goto (tgt := 107) C.1 C.2.1 dL_types_206 (by decide) ?_
                                  exact ih107 _ _ _ _ _ _ h (Or.inl rfl) r_x41 B (lv_sub hl [1, 0, 3, 4, 5, 6, 7] rfl)
                                · refine jr_iconst C dL_types_197 ?_
                                  refine lv_goto (tgt := 202) C.1 C.2.1 dL_types_198 (by decide) ?_
                                  refine lv_istore_n (lv' := [(3, .int (jI 1)), (7, .int (jI x28)), (6, .int (jI x23)), (5, .int (jI x18)), (4, .int (jI x9)), (2, .int (jI x2)), (0, .ref (jD G a1)), (1, .int (jI a2))]) C.1 C.2.1 dL_types_202 rfl hl (by decide) rfl (fun ls hl => ?_)
                                  refine jr_iinc (k := 2) (lv' := fun x42 => [(6, .int (jI x42)), (3, .int (jI 1)), (7, .int (jI x28)), (5, .int (jI x18)), (4, .int (jI x9)), (2, .int (jI x2)), (0, .ref (jD G a1)), (1, .int (jI a2))]) C h hl rfl (by decide) (fun _ => rfl) dL_types_203 (fun x42 h r_x42 ls hl => ?_)
                                  refine lv_goto (tgt := 107) C.1 C.2.1 dL_types_206 (by decide) ?_
                                  exact ih107 _ _ _ _ _ _ h (Or.inr rfl) r_x42 B (lv_sub hl [1, 0, 3, 4, 5, 6, 7] rfl)
                            · refine jr_iconst C dL_types_197 ?_
                              refine lv_goto (tgt := 202) C.1 C.2.1 dL_types_198 (by decide) ?_
                              refine lv_istore_n (lv' := [(3, .int (jI 1)), (7, .int (jI x28)), (6, .int (jI x23)), (5, .int (jI x18)), (4, .int (jI x9)), (2, .int (jI x2)), (0, .ref (jD G a1)), (1, .int (jI a2))]) C.1 C.2.1 dL_types_202 rfl hl (by decide) rfl (fun ls hl => ?_)
                              refine jr_iinc (k := 2) (lv' := fun x43 => [(6, .int (jI x43)), (3, .int (jI 1)), (7, .int (jI x28)), (5, .int (jI x18)), (4, .int (jI x9)), (2, .int (jI x2)), (0, .ref (jD G a1)), (1, .int (jI a2))]) C h hl rfl (by decide) (fun _ => rfl) dL_types_203 (fun x43 h r_x43 ls hl => ?_)
                              refine lv_goto (tgt := 107) C.1 C.2.1 dL_types_206 (by decide) ?_
                              exact ih107 _ _ _ _ _ _ h (Or.inr rfl) r_x43 B (lv_sub hl [1, 0, 3, 4, 5, 6, 7] rfl)
                        · refine lv_aload_n C.1 C.2.1 dL_types_134 rfl (lv_at hl 6 rfl) ?_
                          refine jr_bipush C dL_types_135 (by decide) ?_
                          refine cl_X6_append C hl.1 B q_544 ⟨Nat.le_of_ble_eq_true rfl, Nat.le_of_ble_eq_true rfl⟩ ⟨Nat.zero_le _, Nat.zero_le _⟩ (Nat.le_of_ble_eq_true rfl) k_a1 (jkc rfl) h dL_types_137 (fun x44 M45 r_x44 _ _ h B => ?_)
                          have o_M45 := B.2.2
                          refine jr_if_le (tgt := 201) C r_x44 h dL_types_140 (by decide) (fun hc140 h => ?_) (fun hc140 h => ?_)
                          · refine jr_iconst C dL_types_201 ?_
                            refine lv_istore_n (lv' := [(3, .int (jI 0)), (7, .int (jI x28)), (6, .int (jI x23)), (5, .int (jI x18)), (4, .int (jI x9)), (2, .int (jI x2)), (0, .ref (jD G a1)), (1, .int (jI a2))]) C.1 C.2.1 dL_types_202 rfl hl (by decide) rfl (fun ls hl => ?_)
                            refine jr_iinc (k := 2) (lv' := fun x46 => [(6, .int (jI x46)), (3, .int (jI 0)), (7, .int (jI x28)), (5, .int (jI x18)), (4, .int (jI x9)), (2, .int (jI x2)), (0, .ref (jD G a1)), (1, .int (jI a2))]) C h hl rfl (by decide) (fun _ => rfl) dL_types_203 (fun x46 h r_x46 ls hl => ?_)
                            refine lv_goto (tgt := 107) C.1 C.2.1 dL_types_206 (by decide) ?_
                            exact ih107 _ _ _ _ _ _ h (Or.inl rfl) r_x46 B (lv_sub hl [1, 0, 3, 4, 5, 6, 7] rfl)
                          · refine lv_aload_n C.1 C.2.1 dL_types_143 rfl (lv_at hl 6 rfl) ?_
                            refine lv_iload C.1 C.2.1 dL_types_144 (lv_at hl 0 rfl) ?_
                            refine jr_bipush C dL_types_146 (by decide) ?_
                            refine cl_L_low C hl.1 B q_220 ⟨Nat.le_of_ble_eq_true rfl, Nat.le_of_ble_eq_true rfl⟩ ⟨Nat.zero_le _, Nat.zero_le _⟩ (Nat.le_of_ble_eq_true rfl) r_x28 (jkc rfl) h dL_types_148 (fun x47 r_x47 _ _ h B => ?_)
                            refine jr_iconst C dL_types_151 ?_
                            refine jr_isub C dL_types_152 ?_
                            refine cl_L_digits C hl.1 B q_552 ⟨Nat.le_of_ble_eq_true rfl, Nat.le_of_ble_eq_true rfl⟩ ⟨Nat.zero_le _, Nat.zero_le _⟩ (Nat.le_of_ble_eq_true rfl) k_a1 (jW_R _) h dL_types_153 (fun x48 M49 z_x48 _ _ h B => ?_)
                            have o_M49 := B.2.2
                            refine jr_if_eq (tgt := 201) C (zR z_x48) h dL_types_156 (by decide) (fun hc156 h => ?_) (fun hc156 h => ?_)
                            · refine jr_iconst C dL_types_201 ?_
                              refine lv_istore_n (lv' := [(3, .int (jI 0)), (7, .int (jI x28)), (6, .int (jI x23)), (5, .int (jI x18)), (4, .int (jI x9)), (2, .int (jI x2)), (0, .ref (jD G a1)), (1, .int (jI a2))]) C.1 C.2.1 dL_types_202 rfl hl (by decide) rfl (fun ls hl => ?_)
                              refine jr_iinc (k := 2) (lv' := fun x50 => [(6, .int (jI x50)), (3, .int (jI 0)), (7, .int (jI x28)), (5, .int (jI x18)), (4, .int (jI x9)), (2, .int (jI x2)), (0, .ref (jD G a1)), (1, .int (jI a2))]) C h hl rfl (by decide) (fun _ => rfl) dL_types_203 (fun x50 h r_x50 ls hl => ?_)
                              refine lv_goto (tgt := 107) C.1 C.2.1 dL_types_206 (by decide) ?_
                              exact ih107 _ _ _ _ _ _ h (Or.inl rfl) r_x50 B (lv_sub hl [1, 0, 3, 4, 5, 6, 7] rfl)
                            · refine lv_iload C.1 C.2.1 dL_types_159 (lv_at hl 0 rfl) ?_
                              refine jr_iconst C dL_types_161 ?_
                              refine jr_ishr C dL_types_162 ?_
                              refine jr_iconst C dL_types_163 ?_
                              refine cl_L_low C hl.1 B q_220 ⟨Nat.le_of_ble_eq_true rfl, Nat.le_of_ble_eq_true rfl⟩ ⟨Nat.zero_le _, Nat.zero_le _⟩ (Nat.le_of_ble_eq_true rfl) (jShr_R _ _) (jkc rfl) h dL_types_164 (fun x51 r_x51 _ _ h B => ?_)
                              refine jr_if_gt (tgt := 197) C r_x51 h dL_types_167 (by decide) (fun hc167 h => ?_) (fun hc167 h => ?_)
                              · refine lv_aload_n C.1 C.2.1 dL_types_170 rfl (lv_at hl 6 rfl) ?_
                                refine jr_bipush C dL_types_171 (by decide) ?_
                                refine cl_X6_append C hl.1 B q_544 ⟨Nat.le_of_ble_eq_true rfl, Nat.le_of_ble_eq_true rfl⟩ ⟨Nat.zero_le _, Nat.zero_le _⟩ (Nat.le_of_ble_eq_true rfl) k_a1 (jkc rfl) h dL_types_173 (fun x52 M53 r_x52 _ _ h B => ?_)
                                have o_M53 := B.2.2
                                refine jr_if_le (tgt := 201) C r_x52 h dL_types_176 (by decide) (fun hc176 h => ?_) (fun hc176 h => ?_)
                                · refine jr_iconst C dL_types_201 ?_
                                  refine lv_istore_n (lv' := [(3, .int (jI 0)), (7, .int (jI x28)), (6, .int (jI x23)), (5, .int (jI x18)), (4, .int (jI x9)), (2, .int (jI x2)), (0, .ref (jD G a1)), (1, .int (jI a2))]) C.1 C.2.1 dL_types_202 rfl hl (by decide) rfl (fun ls hl => ?_)
                                  refine jr_iinc (k := 2) (lv' := fun x54 => [(6, .int (jI x54)), (3, .int (jI 0)), (7, .int (jI x28)), (5, .int (jI x18)), (4, .int (jI x9)), (2, .int (jI x2)), (0, .ref (jD G a1)), (1, .int (jI a2))]) C h hl rfl (by decide) (fun _ => rfl) dL_types_203 (fun x54 h r_x54 ls hl => ?_)
                                  refine lv_goto (tgt := 107) C.1 C.2.1 dL_types_206 (by decide) ?_
                                  exact ih107 _ _ _ _ _ _ h (Or.inl rfl) r_x54 B (lv_sub hl [1, 0, 3, 4, 5, 6, 7] rfl)
                                · refine lv_aload_n C.1 C.2.1 dL_types_179 rfl (lv_at hl 6 rfl) ?_
                                  refine lv_iload C.1 C.2.1 dL_types_180 (lv_at hl 0 rfl) ?_
                                  refine jr_iconst C dL_types_182 ?_
                                  refine jr_ishr C dL_types_183 ?_
                                  refine jr_bipush C dL_types_184 (by decide) ?_
                                  refine cl_L_low C hl.1 B q_220 ⟨Nat.le_of_ble_eq_true rfl, Nat.le_of_ble_eq_true rfl⟩ ⟨Nat.zero_le _, Nat.zero_le _⟩ (Nat.le_of_ble_eq_true rfl) (jShr_R _ _) (jkc rfl) h dL_types_186 (fun x55 r_x55 _ _ h B => ?_)
                                  refine jr_iconst C dL_types_189 ?_
                                  refine jr_isub C dL_types_190 ?_
                                  refine cl_L_digits C hl.1 B q_552 ⟨Nat.le_of_ble_eq_true rfl, Nat.le_of_ble_eq_true rfl⟩ ⟨Nat.zero_le _, Nat.zero_le _⟩ (Nat.le_of_ble_eq_true rfl) k_a1 (jW_R _) h dL_types_191 (fun x56 M57 z_x56 _ _ h B => ?_)
                                  have o_M57 := B.2.2
                                  refine jr_if_eq (tgt := 201) C (zR z_x56) h dL_types_194 (by decide) (fun hc194 h => ?_) (fun hc194 h => ?_)
                                  · refine jr_iconst C dL_types_201 ?_
                                    refine lv_istore_n (lv' := [(3, .int (jI 0)), (7, .int (jI x28)), (6, .int (jI x23)), (5, .int (jI x18)), (4, .int (jI x9)), (2, .int (jI x2)), (0, .ref (jD G a1)), (1, .int (jI a2))]) C.1 C.2.1 dL_types_202 rfl hl (by decide) rfl (fun ls hl => ?_)
                                    refine jr_iinc (k := 2) (lv' := fun x58 => [(6, .int (jI x58)), (3, .int (jI 0)), (7, .int (jI x28)), (5, .int (jI x18)), (4, .int (jI x9)), (2, .int (jI x2)), (0, .ref (jD G a1)), (1, .int (jI a2))]) C h hl rfl (by decide) (fun _ => rfl) dL_types_203 (fun x58 h r_x58 ls hl => ?_)
                                    refine lv_goto (tgt := 107) C.1 C.2.1 dL_types_206 (by decide) ?_
                                    exact ih107 _ _ _ _ _ _ h (Or.inl rfl) r_x58 B (lv_sub hl [1, 0, 3, 4, 5, 6, 7] rfl)
                                  · refine jr_iconst C dL_types_197 ?_
                                    refine lv_goto (tgt := 202) C.1 C.2.1 dL_types_198 (by decide) ?_
                                    refine lv_istore_n (lv' := [(3, .int (jI 1)), (7, .int (jI x28)), (6, .int (jI x23)), (5, .int (jI x18)), (4, .int (jI x9)), (2, .int (jI x2)), (0, .ref (jD G a1)), (1, .int (jI a2))]) C.1 C.2.1 dL_types_202 rfl hl (by decide) rfl (fun ls hl => ?_)
                                    refine jr_iinc (k := 2) (lv' := fun x59 => [(6, .int (jI x59)), (3, .int (jI 1)), (7, .int (jI x28)), (5, .int (jI x18)), (4, .int (jI x9)), (2, .int (jI x2)), (0, .ref (jD G a1)), (1, .int (jI a2))]) C h hl rfl (by decide) (fun _ => rfl) dL_types_203 (fun x59 h r_x59 ls hl => ?_)
                                    refine lv_goto (tgt := 107) C.1 C.2.1 dL_types_206 (by decide) ?_
                                    exact ih107 _ _ _ _ _ _ h (Or.inr rfl) r_x59 B (lv_sub hl [1, 0, 3, 4, 5, 6, 7] rfl)
                              · refine jr_iconst C dL_types_197 ?_
                                refine lv_goto (tgt := 202) C.1 C.2.1 dL_types_198 (by decide) ?_
                                refine lv_istore_n (lv' := [(3, .int (jI 1)), (7, .int (jI x28)), (6, .int (jI x23)), (5, .int (jI x18)), (4, .int (jI x9)), (2, .int (jI x2)), (0, .ref (jD G a1)), (1, .int (jI a2))]) C.1 C.2.1 dL_types_202 rfl hl (by decide) rfl (fun ls hl => ?_)
                                refine jr_iinc (k := 2) (lv' := fun x60 => [(6, .int (jI x60)), (3, .int (jI 1)), (7, .int (jI x28)), (5, .int (jI x18)), (4, .int (jI x9)), (2, .int (jI x2)), (0, .ref (jD G a1)), (1, .int (jI a2))]) C h hl rfl (by decide) (fun _ => rfl) dL_types_203 (fun x60 h r_x60 ls hl => ?_)
                                refine lv_goto (tgt := 107) C.1 C.2.1 dL_types_206 (by decide) ?_
                                exact ih107 _ _ _ _ _ _ h (Or.inr rfl) r_x60 B (lv_sub hl [1, 0, 3, 4, 5, 6, 7] rfl)
                    · exact hkx107 _ _ _ _ _ h z_x22 B (lv_sub hl [0, 3, 4, 5, 6] rfl)
                exact hL107 N _ _ _ _ _ _ h z_x19 (jkc rfl) B (lv_sub hl [1, 0, 2, 3, 4, 5, 6] rfl))
              refine jr_if_eq (tgt := 102) C (zR z_x8) h dL_types_81 (by decide) (fun hc81 h => ?_) (fun hc81 h => ?_)
              · refine jr_iconst C dL_types_102 ?_
                exact hj81_20 _ _ _ _ _ h (Or.inl rfl) B (lv_sub hl [0, 2, 3, 4, 5] rfl)
              · refine lv_iload C.1 C.2.1 dL_types_84 (lv_at hl 2 rfl) ?_
                refine jr_if_eq (tgt := 98) C r_x9 h dL_types_86 (by decide) (fun hc86 h => ?_) (fun hc86 h => ?_)
                · refine jr_iconst C dL_types_98 ?_
                  refine lv_goto (tgt := 103) C.1 C.2.1 dL_types_99 (by decide) ?_
                  exact hj81_20 _ _ _ _ _ h (Or.inr rfl) B (lv_sub hl [0, 2, 3, 4, 5] rfl)
                · refine lv_aload_n C.1 C.2.1 dL_types_89 rfl (lv_at hl 4 rfl) ?_
                  refine jr_bipush C dL_types_90 (by decide) ?_
                  refine cl_X6_append C hl.1 B q_544 ⟨Nat.le_of_ble_eq_true rfl, Nat.le_of_ble_eq_true rfl⟩ ⟨Nat.zero_le _, Nat.zero_le _⟩ (Nat.le_of_ble_eq_true rfl) k_a1 (jkc rfl) h dL_types_92 (fun x61 M62 r_x61 _ _ h B => ?_)
                  have o_M62 := B.2.2
                  refine jr_if_le (tgt := 102) C r_x61 h dL_types_95 (by decide) (fun hc95 h => ?_) (fun hc95 h => ?_)
                  · refine jr_iconst C dL_types_102 ?_
                    exact hj81_20 _ _ _ _ _ h (Or.inl rfl) B (lv_sub hl [0, 2, 3, 4, 5] rfl)
                  · refine jr_iconst C dL_types_98 ?_
                    refine lv_goto (tgt := 103) C.1 C.2.1 dL_types_99 (by decide) ?_
                    exact hj81_20 _ _ _ _ _ h (Or.inr rfl) B (lv_sub hl [0, 2, 3, 4, 5] rfl))
            refine jr_if_ne (tgt := 74) C r_x9 h dL_types_54 (by decide) (fun hc54 h => ?_) (fun hc54 h => ?_)
            · refine lv_iload_n C.1 C.2.1 dL_types_57 rfl (lv_at hl 4 rfl) ?_
              refine jr_bipush C dL_types_58 (by decide) ?_
              refine jr_ishr C dL_types_60 ?_
              refine jr_bipush C dL_types_61 (by decide) ?_
              refine cl_L_low C hl.1 B q_220 ⟨Nat.le_of_ble_eq_true rfl, Nat.le_of_ble_eq_true rfl⟩ ⟨Nat.zero_le _, Nat.zero_le _⟩ (Nat.le_of_ble_eq_true rfl) (jShr_R _ _) (jkc rfl) h dL_types_63 (fun x63 r_x63 _ _ h B => ?_)
              refine jr_if_ne (tgt := 74) C r_x63 h dL_types_66 (by decide) (fun hc66 h => ?_) (fun hc66 h => ?_)
              · refine jr_bipush C dL_types_69 (by decide) ?_
                refine lv_goto (tgt := 75) C.1 C.2.1 dL_types_71 (by decide) ?_
                exact hj54_17 _ _ _ _ h (jkc rfl) B (lv_sub hl [0, 1, 2, 3, 4] rfl)
              · refine jr_iconst C dL_types_74 ?_
                exact hj54_17 _ _ _ _ h (jkc rfl) B (lv_sub hl [0, 1, 2, 3, 4] rfl)
            · refine jr_iconst C dL_types_74 ?_
              exact hj54_17 _ _ _ _ h (jkc rfl) B (lv_sub hl [0, 1, 2, 3, 4] rfl)
          · exact hkx40 _ _ _ _ _ h z_x8 B (lv_sub hl [0, 3, 4] rfl)
      exact hL40 N _ _ _ _ _ _ h z_x6 (jkc rfl) B (lv_sub hl [1, 0, 2, 3, 4] rfl))
    refine jr_if_lt (tgt := 35) C r_x4 h dL_types_28 (by decide) (fun hc28 h => ?_) (fun hc28 h => ?_)
    · refine jr_iconst C dL_types_35 ?_
      exact hj28_7 _ _ _ _ h (Or.inl rfl) B (lv_sub hl [0, 1, 2] rfl)
    · refine jr_iconst C dL_types_31 ?_
      refine lv_goto (tgt := 36) C.1 C.2.1 dL_types_32 (by decide) ?_
      exact hj28_7 _ _ _ _ h (Or.inr rfl) B (lv_sub hl [0, 1, 2] rfl))
  refine jr_if_ne (tgt := 22) C r_x1 h dL_types_9 (by decide) (fun hc9 h => ?_) (fun hc9 h => ?_)
  · refine jr_iconst C dL_types_12 ?_
    refine lv_iload_n C.1 C.2.1 dL_types_13 rfl (lv_at hl 1 rfl) ?_
    refine jr_iconst C dL_types_14 ?_
    refine cl_L_low C hl.1 B q_220 ⟨Nat.le_of_ble_eq_true rfl, Nat.le_of_ble_eq_true rfl⟩ ⟨Nat.zero_le _, Nat.zero_le _⟩ (Nat.le_of_ble_eq_true rfl) r_a2 (jkc rfl) h dL_types_15 (fun x64 r_x64 _ _ h B => ?_)
    refine jr_iadd C dL_types_18 ?_
    refine lv_goto (tgt := 23) C.1 C.2.1 dL_types_19 (by decide) ?_
    exact hj9_3 _ _ _ _ h (jW_R _) B (lv_sub hl [0, 1] rfl)
  · refine jr_iconst C dL_types_22 ?_
    exact hj9_3 _ _ _ _ h (jkc rfl) B (lv_sub hl [0, 1] rfl)
theorem cl_L_types {p : Program} {l : Launch} {e : Env} {R : Room} {s : State} {m : MethodId} {args : Array Value} {below : List Frame} {meth : Method} {c : Code} {H : Heap} {locs : List Loc} {cells slots : Nat} {Q : State → Prop} {cc : ByteArray} {nL : Nat} {own : String} {G : jG} {H0 : Heap} {pc idx : Nat} {ls : Array Slot} {rest : List Value} {N : Nat} {M : jM} {a1 a2 : Int} {k : Int → jM → Prop} (C : Cx G p s args m c cc nL own) (hl : ls.size = nL) (B : Hp G M H0 H locs) (q1 : Cond.methodLink own idx yL_types ∈ tb) (hR : (rmm 3 64).frames + 1 ≤ R.frames ∧ 8 + (8 + 11) + (rmm 3 64).locals ≤ R.locals) (hcs : cells ≤ R.cells ∧ slots ≤ R.slots) (hW : (rest.map fun v => v.category).sum ≤ 8) (k_a1 : jK a1 = 7) (r_a2 : jR a2) (h : w_L_types N M a1 a2 k) (hdg : decode cc pc = .ok (.invokestatic idx, 3)) (kk : ∀ (r : Int) (M' : jM), (r = 0 ∨ r = 1) → ∀ (H1 : Heap) (locs1 : List Loc), k r M' → Hp G M' H0 H1 locs1 → W p l e R s m args below meth c H1 locs1 cells slots Q (F0 m (pc + 3) ls (.int (jI r) :: rest))) : W p l e R s m args below meth c H locs cells slots Q (F0 m pc ls (.int (jI a2) :: .ref (jD G a1) :: rest)) :=
  jr_callZ B (jr_runS (As := [.ref (jD G a1), .int (jI a2)]) (n := 2) C hl B (m_L_types B.2.2 k_a1 r_a2 h) q1 q_538 q_539 q_0 ⟨by decide, by decide, by decide +kernel⟩ rfl ⟨rfl, rfl⟩ hR hcs rfl hW hdg) (fun r M' H1 locs1 hr hk B1 => kk r M' hr H1 locs1 hk B1)
