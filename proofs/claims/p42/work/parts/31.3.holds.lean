def lp_L_holds_403 (N : Nat) (a1 : Int) (x10 : Int) (M8 : jM) (kx403 : Int → Prop) : Nat → Int → Int → Int → Prop
  | 0, _, _, _ => False
  | n + 1, x12, x13, x14 => (w_X6_listSize N M8 a1 x10 (fun x23 => (if x14 < x23 then (if x12 = 0 then (kx403 x12) else (w_X6_listAt N M8 a1 x10 x14 (fun x24 => (if x24 ≤ x13 then (w_X6_listAt N M8 a1 x10 x14 (fun x25 => (jL (jW (x14 + 1)) (fun x26 => (lp_L_holds_403 N a1 x10 M8 kx403 n 0 x25 x26))))) else (w_X6_listAt N M8 a1 x10 x14 (fun x27 => (if x27 < 100 then (w_X6_listAt N M8 a1 x10 x14 (fun x28 => (jL (jW (x14 + 1)) (fun x29 => (lp_L_holds_403 N a1 x10 M8 kx403 n 1 x28 x29))))) else (w_X6_listAt N M8 a1 x10 x14 (fun x30 => (jL (jW (x14 + 1)) (fun x31 => (lp_L_holds_403 N a1 x10 M8 kx403 n 0 x30 x31)))))))))))) else (kx403 x12))))
def lp_L_holds_388 (N : Nat) (a1 : Int) (M8 : jM) (kx388 : Int → Prop) : Nat → Int → Int → Prop
  | 0, _, _ => False
  | n + 1, x9, x10 => (if x10 < 8 then (if x9 = 0 then (kx388 x9) else (lp_L_holds_403 N a1 x10 M8 (fun (x15 : Int) => (if x15 = 0 then (jL (jW (x10 + 1)) (fun x16 => (lp_L_holds_388 N a1 M8 kx388 n 0 x16))) else (w_X6_listSize N M8 a1 x10 (fun x17 => (w_X6_listAt N M8 a1 x10 x17 (fun x18 => (if x18 = (-1000007) then (w_X6_listAt N M8 a1 x10 (-1) (fun x19 => (if x19 = (-1000002) then (jL (jW (x10 + 1)) (fun x20 => (lp_L_holds_388 N a1 M8 kx388 n 1 x20))) else (jL (jW (x10 + 1)) (fun x21 => (lp_L_holds_388 N a1 M8 kx388 n 0 x21)))))) else (jL (jW (x10 + 1)) (fun x22 => (lp_L_holds_388 N a1 M8 kx388 n 0 x22)))))))))) N x9 (-1) 0)) else (kx388 x9))
def lp_L_holds_355 (N : Nat) (a1 : Int) (x33 : Int) (kx355 : Int → jM → Prop) : Nat → Int → Int → jM → Prop
  | 0, _, _, _ => False
  | n + 1, x43, x44, M45 => (if x44 < 6 then (if x43 = 0 then (kx355 x43 M45) else (w_L_numbers N M45 a1 x33 x44 (fun x49 M50 => (jL (jW (x44 + 1)) (fun x51 => (lp_L_holds_355 N a1 x33 kx355 n x49 x51 M50)))))) else (kx355 x43 M45))
def lp_L_holds_224 (N : Nat) (a1 : Int) (x33 : Int) (x38 : Int) (M6 : jM) (kx224 : Int → Prop) : Nat → Int → Int → Prop
  | 0, _, _ => False
  | n + 1, x59, x60 => (w_X6_values N M6 a1 x33 x38 (fun x63 => (if x60 < x63 then (if x59 = 0 then (kx224 x59) else (w_X6_subvalues N M6 a1 x33 x38 x60 (fun x64 => (if x64 < 1 then (jL (jW (x60 + 1)) (fun x65 => (lp_L_holds_224 N a1 x33 x38 M6 kx224 n 0 x65))) else (w_X6_subvalues N M6 a1 x33 x38 x60 (fun x66 => (if x66 ≤ 4 then (w_X6_subvalues N M6 a1 x33 x38 x60 (fun x67 => (w_X6_get N M6 a1 x33 x38 x60 x67 (fun x68 => (if x68 = (-1000001) then (w_X6_get N M6 a1 x33 x38 x60 0 (fun x69 => (w_X6_locate N M6 a1 x33 x38 x69 (fun x70 => (if x70 ≤ (jW (10 * x60)) then (jL (jW (x60 + 1)) (fun x71 => (lp_L_holds_224 N a1 x33 x38 M6 kx224 n 1 x71))) else (jL (jW (x60 + 1)) (fun x72 => (lp_L_holds_224 N a1 x33 x38 M6 kx224 n 0 x72)))))))) else (jL (jW (x60 + 1)) (fun x73 => (lp_L_holds_224 N a1 x33 x38 M6 kx224 n 0 x73)))))))) else (jL (jW (x60 + 1)) (fun x74 => (lp_L_holds_224 N a1 x33 x38 M6 kx224 n 0 x74)))))))))) else (kx224 x59))))
def lp_L_holds_129 (N : Nat) (a1 : Int) (x33 : Int) (M6 : jM) (kx129 : Int → Int → Prop) : Nat → Int → Int → Int → Prop
  | 0, _, _, _ => False
  | n + 1, x36, x37, x38 => (if x38 < 4 then (if x36 = 0 then (kx129 x36 x37) else (w_X6_associated M6 a1 x38 (fun x53 => (jL (fun (x54 : Int) => (w_X6_values N M6 a1 x33 x38 (fun x56 => (jL (fun (x57 : Int) => (lp_L_holds_224 N a1 x33 x38 M6 (fun (x61 : Int) => (jL (jW (x38 + 1)) (fun x62 => (lp_L_holds_129 N a1 x33 M6 kx129 n x61 x54 x62)))) N x57 0)) (fun j182_58 => (if x56 < 0 then (j182_58 0) else (w_X6_values N M6 a1 x33 x38 (fun x75 => (if x75 ≤ 5 then (w_X6_values N M6 a1 x33 x38 (fun x76 => (w_X6_subvalues N M6 a1 x33 x38 x76 (fun x77 => (if x77 = (-1000001) then (j182_58 1) else (j182_58 0)))))) else (j182_58 0)))))))))) (fun j146_55 => (if x53 = 1 then (w_X6_values N M6 a1 x33 x38 (fun x78 => (if x78 ≤ x37 then (j146_55 x37) else (w_X6_values N M6 a1 x33 x38 (fun x79 => (j146_55 x79)))))) else (j146_55 x37))))))) else (kx129 x36 x37))
def lp_L_holds_47 (N : Nat) (a1 : Int) (kx47 : Int → jM → Prop) : Nat → Int → Int → jM → Prop
  | 0, _, _, _ => False
  | n + 1, x4, x5, M6 => (w_X6_records M6 a1 (fun x32 => (if x5 < x32 then (if x4 = 0 then (kx47 x4 M6) else (w_X6_recordAt M6 a1 x5 (fun x33 => (jL (fun (x34 : Int) => (lp_L_holds_129 N a1 x33 M6 (fun (x39 : Int) (x40 : Int) => (jL (fun (x41 : Int) => (lp_L_holds_355 N a1 x33 (fun (x46 : Int) (M47 : jM) => (jL (jW (x5 + 1)) (fun x48 => (lp_L_holds_47 N a1 kx47 n x46 x48 M47)))) N x41 0 M6)) (fun j333_42 => (if x39 = 0 then (j333_42 0) else (w_X6_lines N M6 a1 x33 (fun x52 => (if x52 = x40 then (j333_42 1) else (j333_42 0)))))))) N x34 0 0)) (fun j69_35 => (if x33 < 0 then (j69_35 0) else (if x33 < 100 then (jL (w_X6_locker N M6 a1 x33 (fun x81 => (if x81 = (-1000007) then (j69_35 1) else (w_X6_locker N M6 a1 x33 (fun x82 => (if x82 < 0 then (j69_35 0) else (w_X6_locker N M6 a1 x33 (fun x83 => (if x83 < 4 then (j69_35 1) else (j69_35 0)))))))))) (fun j79_80 => (if x5 = 0 then (j79_80) else (w_X6_recordAt M6 a1 (jW (x5 - 1)) (fun x84 => (if x84 < x33 then (j79_80) else (j69_35 0))))))) else (j69_35 0)))))))) else (kx47 x4 M6))))
def w_L_holds (N : Nat) (M : jM) (a1 : Int) (k : Int → jM → Prop) : Prop := (w_X6_records M a1 (fun x1 => (jL (fun (x2 : Int) => (lp_L_holds_47 N a1 (fun (x7 : Int) (M8 : jM) => (lp_L_holds_388 N a1 M8 (fun (x11 : Int) => (k x11 M8)) N x7 0)) N x2 0 M)) (fun j4_3 => (if x1 < 0 then (j4_3 0) else (w_X6_records M a1 (fun x85 => (if x85 ≤ 10 then (w_X6_records M a1 (fun x86 => (w_X6_recordAt M a1 x86 (fun x87 => (if x87 = (-1000007) then (w_X6_recordAt M a1 (-1) (fun x88 => (if x88 = (-1000002) then (j4_3 1) else (j4_3 0)))) else (j4_3 0)))))) else (j4_3 0)))))))))
set_option maxHeartbeats 4000000 in
set_option maxRecDepth 100000 in
theorem m_L_holds {l : Launch} {G : jG} {N : Nat} {M : jM} {a1 : Int} {k : Int → jM → Prop} (o_M : jOK M) (k_a1 : jK a1 = 7) (h : w_L_holds N M a1 k) : Met l yL_holds (wsG yL_holds cL_holds 7 (some .boolean)) (rmm 6 150) (jPc G M [.ref (jD G a1)]) (qZ G k) 0 0 (gA G) := by
  refine jm_start RL rfl (by decide) (Nat.le_of_ble_eq_true rfl) o_M ?_
  intro p e s m args below meth c ls C hr hlocks hl B
  have hl : lv_has ls 7 [(0, .ref (jD G a1))] := hl
  unfold w_L_holds at h
  refine lv_aload_n C.1 C.2.1 dL_holds_0 rfl (lv_at hl 0 rfl) ?_
  refine cl_X6_records C hl.1 B q_259 ⟨Nat.le_of_ble_eq_true rfl, Nat.le_of_ble_eq_true rfl⟩ ⟨Nat.zero_le _, Nat.zero_le _⟩ (Nat.le_of_ble_eq_true rfl) k_a1 h dL_holds_1 (fun x1 r_x1 _ _ h B => ?_)
  obtain ⟨j4_3, hj4_3, h⟩ := jx_join (P := fun j4_3 : Int → Prop => ∀ (x2 : Int) (H : Heap) (locs : List Loc) (ls : Array Slot), j4_3 x2 → (x2 = 0 ∨ x2 = 1) → Hp G M s.heap H locs → lv_has ls 7 [(0, .ref (jD G a1))] → W p l e (rmm 6 150) s m args below meth c H locs 0 0 (MQ below (qZ G k) args s 0 0 (gA G)) (F0 m 44 ls [.int (jI x2)])) h (by
    intro x2 H locs ls h z_x2 B hl
    refine lv_istore_n (lv' := [(1, .int (jI x2)), (0, .ref (jD G a1))]) C.1 C.2.1 dL_holds_44 rfl hl (by decide) rfl (fun ls hl => ?_)
    refine jr_iconst C dL_holds_45 ?_
    refine lv_istore_n (lv' := [(2, .int (jI 0)), (1, .int (jI x2)), (0, .ref (jD G a1))]) C.1 C.2.1 dL_holds_46 rfl hl (by decide) rfl (fun ls hl => ?_)
    obtain ⟨kx47, hkx47, h⟩ : ∃ kx47 : Int → jM → Prop, (∀ (x7 : Int) (M8 : jM) (H : Heap) (locs : List Loc) (ls : Array Slot), kx47 x7 M8 → (x7 = 0 ∨ x7 = 1) → Hp G M8 s.heap H locs → lv_has ls 7 [(1, .int (jI x7)), (0, .ref (jD G a1))] → W p l e (rmm 6 150) s m args below meth c H locs 0 0 (MQ below (qZ G k) args s 0 0 (gA G)) (F0 m 386 ls [])) ∧ lp_L_holds_47 N a1 kx47 N x2 0 M := by
      refine ⟨_, ?_, h⟩
      intro x7 M8 H locs ls h z_x7 B hl
      have o_M8 := B.2.2
      refine jr_iconst C dL_holds_386 ?_
      refine lv_istore_n (lv' := [(2, .int (jI 0)), (1, .int (jI x7)), (0, .ref (jD G a1))]) C.1 C.2.1 dL_holds_387 rfl hl (by decide) rfl (fun ls hl => ?_)
      obtain ⟨kx388, hkx388, h⟩ : ∃ kx388 : Int → Prop, (∀ (x11 : Int) (H : Heap) (locs : List Loc) (ls : Array Slot), kx388 x11 → (x11 = 0 ∨ x11 = 1) → Hp G M8 s.heap H locs → lv_has ls 7 [(1, .int (jI x11))] → W p l e (rmm 6 150) s m args below meth c H locs 0 0 (MQ below (qZ G k) args s 0 0 (gA G)) (F0 m 502 ls [])) ∧ lp_L_holds_388 N a1 M8 kx388 N x7 0 := by
        refine ⟨_, ?_, h⟩
        intro x11 H locs ls h z_x11 B hl
        refine lv_iload_n C.1 C.2.1 dL_holds_502 rfl (lv_at hl 0 rfl) ?_
        exact jr_zret C B hr hlocks z_x11 h dL_holds_503
      have hL388 : ∀ (n : Nat) (x9 : Int) (x10 : Int) (H : Heap) (locs : List Loc) (ls : Array Slot), lp_L_holds_388 N a1 M8 kx388 n x9 x10 → (x9 = 0 ∨ x9 = 1) → jR x10 → Hp G M8 s.heap H locs → lv_has ls 7 [(1, .int (jI x9)), (2, .int (jI x10)), (0, .ref (jD G a1))] → W p l e (rmm 6 150) s m args below meth c H locs 0 0 (MQ below (qZ G k) args s 0 0 (gA G)) (F0 m 388 ls []) := by
        intro n
        induction n with
        | zero => intro x9 x10 H locs ls h; exact (show False from h).elim
        | succ n ih388 =>
          intro x9 x10 H locs ls h z_x9 r_x10 B hl
          rw [lp_L_holds_388] at h
          refine lv_iload_n C.1 C.2.1 dL_holds_388 rfl (lv_at hl 1 rfl) ?_
          refine jr_bipush C dL_holds_389 (by decide) ?_
          refine jr_icmp_ge (tgt := 502) C r_x10 (jkc rfl) h dL_holds_391 (by decide) (fun hc391 h => ?_) (fun hc391 h => ?_)
          · refine lv_iload_n C.1 C.2.1 dL_holds_394 rfl (lv_at hl 0 rfl) ?_
            refine jr_if_eq (tgt := 502) C (zR z_x9) h dL_holds_395 (by decide) (fun hc395 h => ?_) (fun hc395 h => ?_)
            · exact hkx388 _ _ _ _ h z_x9 B (lv_sub hl [0] rfl)
            · refine jr_iconst C dL_holds_398 ?_
              refine lv_istore_n (lv' := [(3, .int (jI (-1))), (1, .int (jI x9)), (2, .int (jI x10)), (0, .ref (jD G a1))]) C.1 C.2.1 dL_holds_399 rfl hl (by decide) rfl (fun ls hl => ?_)
              refine jr_iconst C dL_holds_400 ?_
              refine lv_istore (lv' := [(4, .int (jI 0)), (3, .int (jI (-1))), (1, .int (jI x9)), (2, .int (jI x10)), (0, .ref (jD G a1))]) C.1 C.2.1 dL_holds_401 hl (by decide) rfl (fun ls hl => ?_)
              obtain ⟨kx403, hkx403, h⟩ : ∃ kx403 : Int → Prop, (∀ (x15 : Int) (H : Heap) (locs : List Loc) (ls : Array Slot), kx403 x15 → (x15 = 0 ∨ x15 = 1) → Hp G M8 s.heap H locs → lv_has ls 7 [(1, .int (jI x15)), (2, .int (jI x10)), (0, .ref (jD G a1))] → W p l e (rmm 6 150) s m args below meth c H locs 0 0 (MQ below (qZ G k) args s 0 0 (gA G)) (F0 m 460 ls [])) ∧ lp_L_holds_403 N a1 x10 M8 kx403 N x9 (-1) 0 := by
                refine ⟨_, ?_, h⟩
                intro x15 H locs ls h z_x15 B hl
                refine lv_iload_n C.1 C.2.1 dL_holds_460 rfl (lv_at hl 0 rfl) ?_
                refine jr_if_eq (tgt := 494) C (zR z_x15) h dL_holds_461 (by decide) (fun hc461 h => ?_) (fun hc461 h => ?_)
                · refine jr_iconst C dL_holds_494 ?_
                  refine lv_istore_n (lv' := [(1, .int (jI 0)), (2, .int (jI x10)), (0, .ref (jD G a1))]) C.1 C.2.1 dL_holds_495 rfl hl (by decide) rfl (fun ls hl => ?_)
                  refine jr_iinc (k := 1) (lv' := fun x16 => [(2, .int (jI x16)), (1, .int (jI 0)), (0, .ref (jD G a1))]) C h hl rfl (by decide) (fun _ => rfl) dL_holds_496 (fun x16 h r_x16 ls hl => ?_)
                  refine lv_goto (tgt := 388) C.1 C.2.1 dL_holds_499 (by decide) ?_
                  exact ih388 _ _ _ _ _ h (Or.inl rfl) r_x16 B (lv_sub hl [1, 0, 2] rfl)
                · refine lv_aload_n C.1 C.2.1 dL_holds_464 rfl (lv_at hl 2 rfl) ?_
                  refine lv_iload_n C.1 C.2.1 dL_holds_465 rfl (lv_at hl 1 rfl) ?_
                  refine lv_aload_n C.1 C.2.1 dL_holds_466 rfl (lv_at hl 2 rfl) ?_
                  refine lv_iload_n C.1 C.2.1 dL_holds_467 rfl (lv_at hl 1 rfl) ?_
                  refine cl_X6_listSize C hl.1 B q_242 ⟨Nat.le_of_ble_eq_true rfl, Nat.le_of_ble_eq_true rfl⟩ ⟨Nat.zero_le _, Nat.zero_le _⟩ (Nat.le_of_ble_eq_true rfl) k_a1 r_x10 h dL_holds_468 (fun x17 r_x17 _ _ h B => ?_)
                  refine cl_X6_listAt C hl.1 B q_254 ⟨Nat.le_of_ble_eq_true rfl, Nat.le_of_ble_eq_true rfl⟩ ⟨Nat.zero_le _, Nat.zero_le _⟩ (Nat.le_of_ble_eq_true rfl) k_a1 r_x10 r_x17 h dL_holds_471 (fun x18 r_x18 _ _ h B => ?_)
                  refine jr_ldc (n := -1000007) C q_313 (by decide) dL_holds_474 ?_
                  refine jr_icmp_ne (tgt := 494) C r_x18 (jkc rfl) h dL_holds_476 (by decide) (fun hc476 h => ?_) (fun hc476 h => ?_)
                  · refine lv_aload_n C.1 C.2.1 dL_holds_479 rfl (lv_at hl 2 rfl) ?_
                    refine lv_iload_n C.1 C.2.1 dL_holds_480 rfl (lv_at hl 1 rfl) ?_
                    refine jr_iconst C dL_holds_481 ?_
                    refine cl_X6_listAt C hl.1 B q_254 ⟨Nat.le_of_ble_eq_true rfl, Nat.le_of_ble_eq_true rfl⟩ ⟨Nat.zero_le _, Nat.zero_le _⟩ (Nat.le_of_ble_eq_true rfl) k_a1 r_x10 (jkc rfl) h dL_holds_482 (fun x19 r_x19 _ _ h B => ?_)
                    refine jr_ldc (n := -1000002) C q_314 (by decide) dL_holds_485 ?_
                    refine jr_icmp_ne (tgt := 494) C r_x19 (jkc rfl) h dL_holds_487 (by decide) (fun hc487 h => ?_) (fun hc487 h => ?_)
                    · refine jr_iconst C dL_holds_490 ?_
                      refine lv_goto (tgt := 495) C.1 C.2.1 dL_holds_491 (by decide) ?_
                      refine lv_istore_n (lv' := [(1, .int (jI 1)), (2, .int (jI x10)), (0, .ref (jD G a1))]) C.1 C.2.1 dL_holds_495 rfl hl (by decide) rfl (fun ls hl => ?_)
                      refine jr_iinc (k := 1) (lv' := fun x20 => [(2, .int (jI x20)), (1, .int (jI 1)), (0, .ref (jD G a1))]) C h hl rfl (by decide) (fun _ => rfl) dL_holds_496 (fun x20 h r_x20 ls hl => ?_)
                      refine lv_goto (tgt := 388) C.1 C.2.1 dL_holds_499 (by decide) ?_
                      exact ih388 _ _ _ _ _ h (Or.inr rfl) r_x20 B (lv_sub hl [1, 0, 2] rfl)
                    · refine jr_iconst C dL_holds_494 ?_
                      refine lv_istore_n (lv' := [(1, .int (jI 0)), (2, .int (jI x10)), (0, .ref (jD G a1))]) C.1 C.2.1 dL_holds_495 rfl hl (by decide) rfl (fun ls hl => ?_)
                      refine jr_iinc (k := 1) (lv' := fun x21 => [(2, .int (jI x21)), (1, .int (jI 0)), (0, .ref (jD G a1))]) C h hl rfl (by decide) (fun _ => rfl) dL_holds_496 (fun x21 h r_x21 ls hl => ?_)
                      refine lv_goto (tgt := 388) C.1 C.2.1 dL_holds_499 (by decide) ?_
                      exact ih388 _ _ _ _ _ h (Or.inl rfl) r_x21 B (lv_sub hl [1, 0, 2] rfl)
                  · refine jr_iconst C dL_holds_494 ?_
                    refine lv_istore_n (lv' := [(1, .int (jI 0)), (2, .int (jI x10)), (0, .ref (jD G a1))]) C.1 C.2.1 dL_holds_495 rfl hl (by decide) rfl (fun ls hl => ?_)
                    refine jr_iinc (k := 1) (lv' := fun x22 => [(2, .int (jI x22)), (1, .int (jI 0)), (0, .ref (jD G a1))]) C h hl rfl (by decide) (fun _ => rfl) dL_holds_496 (fun x22 h r_x22 ls hl => ?_)
                    refine lv_goto (tgt := 388) C.1 C.2.1 dL_holds_499 (by decide) ?_
                    exact ih388 _ _ _ _ _ h (Or.inl rfl) r_x22 B (lv_sub hl [1, 0, 2] rfl)
              have hL403 : ∀ (n : Nat) (x12 : Int) (x13 : Int) (x14 : Int) (H : Heap) (locs : List Loc) (ls : Array Slot), lp_L_holds_403 N a1 x10 M8 kx403 n x12 x13 x14 → (x12 = 0 ∨ x12 = 1) → jR x13 → jR x14 → Hp G M8 s.heap H locs → lv_has ls 7 [(1, .int (jI x12)), (3, .int (jI x13)), (4, .int (jI x14)), (2, .int (jI x10)), (0, .ref (jD G a1))] → W p l e (rmm 6 150) s m args below meth c H locs 0 0 (MQ below (qZ G k) args s 0 0 (gA G)) (F0 m 403 ls []) := by
                intro n
                induction n with
                | zero => intro x12 x13 x14 H locs ls h; exact (show False from h).elim
                | succ n ih403 =>
                  intro x12 x13 x14 H locs ls h z_x12 r_x13 r_x14 B hl
                  rw [lp_L_holds_403] at h
                  refine lv_iload C.1 C.2.1 dL_holds_403 (lv_at hl 2 rfl) ?_
                  refine lv_aload_n C.1 C.2.1 dL_holds_405 rfl (lv_at hl 4 rfl) ?_
                  refine lv_iload_n C.1 C.2.1 dL_holds_406 rfl (lv_at hl 3 rfl) ?_
                  refine cl_X6_listSize C hl.1 B q_242 ⟨Nat.le_of_ble_eq_true rfl, Nat.le_of_ble_eq_true rfl⟩ ⟨Nat.zero_le _, Nat.zero_le _⟩ (Nat.le_of_ble_eq_true rfl) k_a1 r_x10 h dL_holds_407 (fun x23 r_x23 _ _ h B => ?_)
                  refine jr_icmp_ge (tgt := 460) C r_x14 r_x23 h dL_holds_410 (by decide) (fun hc410 h => ?_) (fun hc410 h => ?_)
                  · refine lv_iload_n C.1 C.2.1 dL_holds_413 rfl (lv_at hl 0 rfl) ?_
                    refine jr_if_eq (tgt := 460) C (zR z_x12) h dL_holds_414 (by decide) (fun hc414 h => ?_) (fun hc414 h => ?_)
                    · exact hkx403 _ _ _ _ h z_x12 B (lv_sub hl [0, 3, 4] rfl)
                    · refine lv_aload_n C.1 C.2.1 dL_holds_417 rfl (lv_at hl 4 rfl) ?_
                      refine lv_iload_n C.1 C.2.1 dL_holds_418 rfl (lv_at hl 3 rfl) ?_
                      refine lv_iload C.1 C.2.1 dL_holds_419 (lv_at hl 2 rfl) ?_
                      refine cl_X6_listAt C hl.1 B q_254 ⟨Nat.le_of_ble_eq_true rfl, Nat.le_of_ble_eq_true rfl⟩ ⟨Nat.zero_le _, Nat.zero_le _⟩ (Nat.le_of_ble_eq_true rfl) k_a1 r_x10 r_x14 h dL_holds_421 (fun x24 r_x24 _ _ h B => ?_)
                      refine lv_iload_n C.1 C.2.1 dL_holds_424 rfl (lv_at hl 1 rfl) ?_
                      refine jr_icmp_le (tgt := 444) C r_x24 r_x13 h dL_holds_425 (by decide) (fun hc425 h => ?_) (fun hc425 h => ?_)
                      · refine jr_iconst C dL_holds_444 ?_
                        refine lv_istore_n (lv' := [(1, .int (jI 0)), (3, .int (jI x13)), (4, .int (jI x14)), (2, .int (jI x10)), (0, .ref (jD G a1))]) C.1 C.2.1 dL_holds_445 rfl hl (by decide) rfl (fun ls hl => ?_)
                        refine lv_aload_n C.1 C.2.1 dL_holds_446 rfl (lv_at hl 4 rfl) ?_
                        refine lv_iload_n C.1 C.2.1 dL_holds_447 rfl (lv_at hl 3 rfl) ?_
                        refine lv_iload C.1 C.2.1 dL_holds_448 (lv_at hl 2 rfl) ?_
                        refine cl_X6_listAt C hl.1 B q_254 ⟨Nat.le_of_ble_eq_true rfl, Nat.le_of_ble_eq_true rfl⟩ ⟨Nat.zero_le _, Nat.zero_le _⟩ (Nat.le_of_ble_eq_true rfl) k_a1 r_x10 r_x14 h dL_holds_450 (fun x25 r_x25 _ _ h B => ?_)
                        refine lv_istore_n (lv' := [(3, .int (jI x25)), (1, .int (jI 0)), (4, .int (jI x14)), (2, .int (jI x10)), (0, .ref (jD G a1))]) C.1 C.2.1 dL_holds_453 rfl hl (by decide) rfl (fun ls hl => ?_)
                        refine jr_iinc (k := 2) (lv' := fun x26 => [(4, .int (jI x26)), (3, .int (jI x25)), (1, .int (jI 0)), (2, .int (jI x10)), (0, .ref (jD G a1))]) C h hl rfl (by decide) (fun _ => rfl) dL_holds_454 (fun x26 h r_x26 ls hl => ?_)
                        refine lv_goto (tgt := 403) C.1 C.2.1 dL_holds_457 (by decide) ?_
                        exact ih403 _ _ _ _ _ _ h (Or.inl rfl) r_x25 r_x26 B (lv_sub hl [2, 1, 0, 3, 4] rfl)
                      · refine lv_aload_n C.1 C.2.1 dL_holds_428 rfl (lv_at hl 4 rfl) ?_
                        refine lv_iload_n C.1 C.2.1 dL_holds_429 rfl (lv_at hl 3 rfl) ?_
                        refine lv_iload C.1 C.2.1 dL_holds_430 (lv_at hl 2 rfl) ?_
                        refine cl_X6_listAt C hl.1 B q_254 ⟨Nat.le_of_ble_eq_true rfl, Nat.le_of_ble_eq_true rfl⟩ ⟨Nat.zero_le _, Nat.zero_le _⟩ (Nat.le_of_ble_eq_true rfl) k_a1 r_x10 r_x14 h dL_holds_432 (fun x27 r_x27 _ _ h B => ?_)
                        refine jr_bipush C dL_holds_435 (by decide) ?_
                        refine jr_icmp_ge (tgt := 444) C r_x27 (jkc rfl) h dL_holds_437 (by decide) (fun hc437 h => ?_) (fun hc437 h => ?_)
                        · refine jr_iconst C dL_holds_440 ?_
                          refine lv_goto (tgt := 445) C.1 C.2.1 dL_holds_441 (by decide) ?_
                          refine lv_istore_n (lv' := [(1, .int (jI 1)), (3, .int (jI x13)), (4, .int (jI x14)), (2, .int (jI x10)), (0, .ref (jD G a1))]) C.1 C.2.1 dL_holds_445 rfl hl (by decide) rfl (fun ls hl => ?_)
                          refine lv_aload_n C.1 C.2.1 dL_holds_446 rfl (lv_at hl 4 rfl) ?_
                          refine lv_iload_n C.1 C.2.1 dL_holds_447 rfl (lv_at hl 3 rfl) ?_
                          refine lv_iload C.1 C.2.1 dL_holds_448 (lv_at hl 2 rfl) ?_
                          refine cl_X6_listAt C hl.1 B q_254 ⟨Nat.le_of_ble_eq_true rfl, Nat.le_of_ble_eq_true rfl⟩ ⟨Nat.zero_le _, Nat.zero_le _⟩ (Nat.le_of_ble_eq_true rfl) k_a1 r_x10 r_x14 h dL_holds_450 (fun x28 r_x28 _ _ h B => ?_)
                          refine lv_istore_n (lv' := [(3, .int (jI x28)), (1, .int (jI 1)), (4, .int (jI x14)), (2, .int (jI x10)), (0, .ref (jD G a1))]) C.1 C.2.1 dL_holds_453 rfl hl (by decide) rfl (fun ls hl => ?_)
                          refine jr_iinc (k := 2) (lv' := fun x29 => [(4, .int (jI x29)), (3, .int (jI x28)), (1, .int (jI 1)), (2, .int (jI x10)), (0, .ref (jD G a1))]) C h hl rfl (by decide) (fun _ => rfl) dL_holds_454 (fun x29 h r_x29 ls hl => ?_)
                          refine lv_goto (tgt := 403) C.1 C.2.1 dL_holds_457 (by decide) ?_
                          exact ih403 _ _ _ _ _ _ h (Or.inr rfl) r_x28 r_x29 B (lv_sub hl [2, 1, 0, 3, 4] rfl)
                        · refine jr_iconst C dL_holds_444 ?_
                          refine lv_istore_n (lv' := [(1, .int (jI 0)), (3, .int (jI x13)), (4, .int (jI x14)), (2, .int (jI x10)), (0, .ref (jD G a1))]) C.1 C.2.1 dL_holds_445 rfl hl (by decide) rfl (fun ls hl => ?_)
                          refine lv_aload_n C.1 C.2.1 dL_holds_446 rfl (lv_at hl 4 rfl) ?_
                          refine lv_iload_n C.1 C.2.1 dL_holds_447 rfl (lv_at hl 3 rfl) ?_
                          refine lv_iload C.1 C.2.1 dL_holds_448 (lv_at hl 2 rfl) ?_
                          refine cl_X6_listAt C hl.1 B q_254 ⟨Nat.le_of_ble_eq_true rfl, Nat.le_of_ble_eq_true rfl⟩ ⟨Nat.zero_le _, Nat.zero_le _⟩ (Nat.le_of_ble_eq_true rfl) k_a1 r_x10 r_x14 h dL_holds_450 (fun x30 r_x30 _ _ h B => ?_)
                          refine lv_istore_n (lv' := [(3, .int (jI x30)), (1, .int (jI 0)), (4, .int (jI x14)), (2, .int (jI x10)), (0, .ref (jD G a1))]) C.1 C.2.1 dL_holds_453 rfl hl (by decide) rfl (fun ls hl => ?_)
                          refine jr_iinc (k := 2) (lv' := fun x31 => [(4, .int (jI x31)), (3, .int (jI x30)), (1, .int (jI 0)), (2, .int (jI x10)), (0, .ref (jD G a1))]) C h hl rfl (by decide) (fun _ => rfl) dL_holds_454 (fun x31 h r_x31 ls hl => ?_)
                          refine lv_goto (tgt := 403) C.1 C.2.1 dL_holds_457 (by decide) ?_
                          exact ih403 _ _ _ _ _ _ h (Or.inl rfl) r_x30 r_x31 B (lv_sub hl [2, 1, 0, 3, 4] rfl)
                  · exact hkx403 _ _ _ _ h z_x12 B (lv_sub hl [0, 3, 4] rfl)
              exact hL403 N _ _ _ _ _ _ h z_x9 (jkc rfl) (jkc rfl) B (lv_sub hl [2, 1, 0, 3, 4] rfl)
          · exact hkx388 _ _ _ _ h z_x9 B (lv_sub hl [0] rfl)
      exact hL388 N _ _ _ _ _ h z_x7 (jkc rfl) B (lv_sub hl [1, 0, 2] rfl)
    have hL47 : ∀ (n : Nat) (x4 : Int) (x5 : Int) (M6 : jM) (H : Heap) (locs : List Loc) (ls : Array Slot), lp_L_holds_47 N a1 kx47 n x4 x5 M6 → (x4 = 0 ∨ x4 = 1) → jR x5 → Hp G M6 s.heap H locs → lv_has ls 7 [(1, .int (jI x4)), (2, .int (jI x5)), (0, .ref (jD G a1))] → W p l e (rmm 6 150) s m args below meth c H locs 0 0 (MQ below (qZ G k) args s 0 0 (gA G)) (F0 m 47 ls []) := by
      intro n
      induction n with
      | zero => intro x4 x5 M6 H locs ls h; exact (show False from h).elim
      | succ n ih47 =>
        intro x4 x5 M6 H locs ls h z_x4 r_x5 B hl
        have o_M6 := B.2.2
        rw [lp_L_holds_47] at h
        refine lv_iload_n C.1 C.2.1 dL_holds_47 rfl (lv_at hl 1 rfl) ?_
        refine lv_aload_n C.1 C.2.1 dL_holds_48 rfl (lv_at hl 2 rfl) ?_
        refine cl_X6_records C hl.1 B q_259 ⟨Nat.le_of_ble_eq_true rfl, Nat.le_of_ble_eq_true rfl⟩ ⟨Nat.zero_le _, Nat.zero_le _⟩ (Nat.le_of_ble_eq_true rfl) k_a1 h dL_holds_49 (fun x32 r_x32 _ _ h B => ?_)
        refine jr_icmp_ge (tgt := 386) C r_x5 r_x32 h dL_holds_52 (by decide) (fun hc52 h => ?_) (fun hc52 h => ?_)
        · refine lv_iload_n C.1 C.2.1 dL_holds_55 rfl (lv_at hl 0 rfl) ?_
          refine jr_if_eq (tgt := 386) C (zR z_x4) h dL_holds_56 (by decide) (fun hc56 h => ?_) (fun hc56 h => ?_)
          · exact hkx47 _ _ _ _ _ h z_x4 B (lv_sub hl [0, 2] rfl)
          · refine lv_aload_n C.1 C.2.1 dL_holds_59 rfl (lv_at hl 2 rfl) ?_
            refine lv_iload_n C.1 C.2.1 dL_holds_60 rfl (lv_at hl 1 rfl) ?_
            refine cl_X6_recordAt C hl.1 B q_263 ⟨Nat.le_of_ble_eq_true rfl, Nat.le_of_ble_eq_true rfl⟩ ⟨Nat.zero_le _, Nat.zero_le _⟩ (Nat.le_of_ble_eq_true rfl) k_a1 r_x5 h dL_holds_61 (fun x33 r_x33 _ _ h B => ?_)
            refine lv_istore_n (lv' := [(3, .int (jI x33)), (1, .int (jI x4)), (2, .int (jI x5)), (0, .ref (jD G a1))]) C.1 C.2.1 dL_holds_64 rfl hl (by decide) rfl (fun ls hl => ?_)
            refine jr_iconst C dL_holds_65 ?_
            refine lv_istore (lv' := [(4, .int (jI 0)), (3, .int (jI x33)), (1, .int (jI x4)), (2, .int (jI x5)), (0, .ref (jD G a1))]) C.1 C.2.1 dL_holds_66 hl (by decide) rfl (fun ls hl => ?_)
            refine lv_iload_n C.1 C.2.1 dL_holds_68 rfl (lv_at hl 1 rfl) ?_
            obtain ⟨j69_35, hj69_35, h⟩ := jx_join (P := fun j69_35 : Int → Prop => ∀ (x34 : Int) (H : Heap) (locs : List Loc) (ls : Array Slot), j69_35 x34 → (x34 = 0 ∨ x34 = 1) → Hp G M6 s.heap H locs → lv_has ls 7 [(4, .int (jI 0)), (3, .int (jI x33)), (2, .int (jI x5)), (0, .ref (jD G a1))] → W p l e (rmm 6 150) s m args below meth c H locs 0 0 (MQ below (qZ G k) args s 0 0 (gA G)) (F0 m 125 ls [.int (jI x34)])) h (by
              intro x34 H locs ls h z_x34 B hl
              refine lv_istore_n (lv' := [(1, .int (jI x34)), (4, .int (jI 0)), (3, .int (jI x33)), (2, .int (jI x5)), (0, .ref (jD G a1))]) C.1 C.2.1 dL_holds_125 rfl hl (by decide) rfl (fun ls hl => ?_)
              refine jr_iconst C dL_holds_126 ?_
              refine lv_istore (lv' := [(5, .int (jI 0)), (1, .int (jI x34)), (4, .int (jI 0)), (3, .int (jI x33)), (2, .int (jI x5)), (0, .ref (jD G a1))]) C.1 C.2.1 dL_holds_127 hl (by decide) rfl (fun ls hl => ?_)
              obtain ⟨kx129, hkx129, h⟩ : ∃ kx129 : Int → Int → Prop, (∀ (x39 : Int) (x40 : Int) (H : Heap) (locs : List Loc) (ls : Array Slot), kx129 x39 x40 → (x39 = 0 ∨ x39 = 1) → jR x40 → Hp G M6 s.heap H locs → lv_has ls 7 [(1, .int (jI x39)), (4, .int (jI x40)), (3, .int (jI x33)), (2, .int (jI x5)), (0, .ref (jD G a1))] → W p l e (rmm 6 150) s m args below meth c H locs 0 0 (MQ below (qZ G k) args s 0 0 (gA G)) (F0 m 332 ls [])) ∧ lp_L_holds_129 N a1 x33 M6 kx129 N x34 0 0 := by
                refine ⟨_, ?_, h⟩
                intro x39 x40 H locs ls h z_x39 r_x40 B hl
                refine lv_iload_n C.1 C.2.1 dL_holds_332 rfl (lv_at hl 0 rfl) ?_
                obtain ⟨j333_42, hj333_42, h⟩ := jx_join (P := fun j333_42 : Int → Prop => ∀ (x41 : Int) (H : Heap) (locs : List Loc) (ls : Array Slot), j333_42 x41 → (x41 = 0 ∨ x41 = 1) → Hp G M6 s.heap H locs → lv_has ls 7 [(3, .int (jI x33)), (2, .int (jI x5)), (0, .ref (jD G a1))] → W p l e (rmm 6 150) s m args below meth c H locs 0 0 (MQ below (qZ G k) args s 0 0 (gA G)) (F0 m 351 ls [.int (jI x41)])) h (by
                  intro x41 H locs ls h z_x41 B hl
                  refine lv_istore_n (lv' := [(1, .int (jI x41)), (3, .int (jI x33)), (2, .int (jI x5)), (0, .ref (jD G a1))]) C.1 C.2.1 dL_holds_351 rfl hl (by decide) rfl (fun ls hl => ?_)
                  refine jr_iconst C dL_holds_352 ?_
                  refine lv_istore (lv' := [(5, .int (jI 0)), (1, .int (jI x41)), (3, .int (jI x33)), (2, .int (jI x5)), (0, .ref (jD G a1))]) C.1 C.2.1 dL_holds_353 hl (by decide) rfl (fun ls hl => ?_)
                  obtain ⟨kx355, hkx355, h⟩ : ∃ kx355 : Int → jM → Prop, (∀ (x46 : Int) (M47 : jM) (H : Heap) (locs : List Loc) (ls : Array Slot), kx355 x46 M47 → (x46 = 0 ∨ x46 = 1) → Hp G M47 s.heap H locs → lv_has ls 7 [(1, .int (jI x46)), (2, .int (jI x5)), (0, .ref (jD G a1))] → W p l e (rmm 6 150) s m args below meth c H locs 0 0 (MQ below (qZ G k) args s 0 0 (gA G)) (F0 m 380 ls [])) ∧ lp_L_holds_355 N a1 x33 kx355 N x41 0 M6 := by
                    refine ⟨_, ?_, h⟩
                    intro x46 M47 H locs ls h z_x46 B hl
                    have o_M47 := B.2.2
                    refine jr_iinc (k := 1) (lv' := fun x48 => [(2, .int (jI x48)), (1, .int (jI x46)), (0, .ref (jD G a1))]) C h hl rfl (by decide) (fun _ => rfl) dL_holds_380 (fun x48 h r_x48 ls hl => ?_)
                    refine lv_goto (tgt := 47) C.1 C.2.1 dL_holds_383 (by decide) ?_
                    exact ih47 _ _ _ _ _ _ h z_x46 r_x48 B (lv_sub hl [1, 0, 2] rfl)
                  have hL355 : ∀ (n : Nat) (x43 : Int) (x44 : Int) (M45 : jM) (H : Heap) (locs : List Loc) (ls : Array Slot), lp_L_holds_355 N a1 x33 kx355 n x43 x44 M45 → (x43 = 0 ∨ x43 = 1) → jR x44 → Hp G M45 s.heap H locs → lv_has ls 7 [(1, .int (jI x43)), (5, .int (jI x44)), (3, .int (jI x33)), (2, .int (jI x5)), (0, .ref (jD G a1))] → W p l e (rmm 6 150) s m args below meth c H locs 0 0 (MQ below (qZ G k) args s 0 0 (gA G)) (F0 m 355 ls []) := by
                    intro n
                    induction n with
                    | zero => intro x43 x44 M45 H locs ls h; exact (show False from h).elim
                    | succ n ih355 =>
                      intro x43 x44 M45 H locs ls h z_x43 r_x44 B hl
                      have o_M45 := B.2.2
                      rw [lp_L_holds_355] at h
                      refine lv_iload C.1 C.2.1 dL_holds_355 (lv_at hl 1 rfl) ?_
                      refine jr_bipush C dL_holds_357 (by decide) ?_
                      refine jr_icmp_ge (tgt := 380) C r_x44 (jkc rfl) h dL_holds_359 (by decide) (fun hc359 h => ?_) (fun hc359 h => ?_)
                      · refine lv_iload_n C.1 C.2.1 dL_holds_362 rfl (lv_at hl 0 rfl) ?_
                        refine jr_if_eq (tgt := 380) C (zR z_x43) h dL_holds_363 (by decide) (fun hc363 h => ?_) (fun hc363 h => ?_)
                        · exact hkx355 _ _ _ _ _ h z_x43 B (lv_sub hl [0, 3, 4] rfl)
                        · refine lv_aload_n C.1 C.2.1 dL_holds_366 rfl (lv_at hl 4 rfl) ?_
                          refine lv_iload_n C.1 C.2.1 dL_holds_367 rfl (lv_at hl 2 rfl) ?_
                          refine lv_iload C.1 C.2.1 dL_holds_368 (lv_at hl 1 rfl) ?_
                          refine cl_L_numbers C hl.1 B q_335 ⟨Nat.le_of_ble_eq_true rfl, Nat.le_of_ble_eq_true rfl⟩ ⟨Nat.zero_le _, Nat.zero_le _⟩ (Nat.le_of_ble_eq_true rfl) k_a1 r_x33 r_x44 h dL_holds_370 (fun x49 M50 z_x49 _ _ h B => ?_)
                          have o_M50 := B.2.2
                          refine lv_istore_n (lv' := [(1, .int (jI x49)), (5, .int (jI x44)), (3, .int (jI x33)), (2, .int (jI x5)), (0, .ref (jD G a1))]) C.1 C.2.1 dL_holds_373 rfl hl (by decide) rfl (fun ls hl => ?_)
                          refine jr_iinc (k := 1) (lv' := fun x51 => [(5, .int (jI x51)), (1, .int (jI x49)), (3, .int (jI x33)), (2, .int (jI x5)), (0, .ref (jD G a1))]) C h hl rfl (by decide) (fun _ => rfl) dL_holds_374 (fun x51 h r_x51 ls hl => ?_)
                          refine lv_goto (tgt := 355) C.1 C.2.1 dL_holds_377 (by decide) ?_
                          exact ih355 _ _ _ _ _ _ h z_x49 r_x51 B (lv_sub hl [1, 0, 2, 3, 4] rfl)
                      · exact hkx355 _ _ _ _ _ h z_x43 B (lv_sub hl [0, 3, 4] rfl)
                  exact hL355 N _ _ _ _ _ _ h z_x41 (jkc rfl) B (lv_sub hl [1, 0, 2, 3, 4] rfl))
                refine jr_if_eq (tgt := 350) C (zR z_x39) h dL_holds_333 (by decide) (fun hc333 h => ?_) (fun hc333 h => ?_)
                · refine jr_iconst C dL_holds_350 ?_
                  exact hj333_42 _ _ _ _ h (Or.inl rfl) B (lv_sub hl [2, 3, 4] rfl)
                · refine lv_aload_n C.1 C.2.1 dL_holds_336 rfl (lv_at hl 4 rfl) ?_
                  refine lv_iload_n C.1 C.2.1 dL_holds_337 rfl (lv_at hl 2 rfl) ?_
                  refine cl_X6_lines C hl.1 B q_323 ⟨Nat.le_of_ble_eq_true rfl, Nat.le_of_ble_eq_true rfl⟩ ⟨Nat.zero_le _, Nat.zero_le _⟩ (Nat.le_of_ble_eq_true rfl) k_a1 r_x33 h dL_holds_338 (fun x52 r_x52 _ _ h B => ?_)
                  refine lv_iload C.1 C.2.1 dL_holds_341 (lv_at hl 1 rfl) ?_
                  refine jr_icmp_ne (tgt := 350) C r_x52 r_x40 h dL_holds_343 (by decide) (fun hc343 h => ?_) (fun hc343 h => ?_)
                  · refine jr_iconst C dL_holds_346 ?_
                    refine lv_goto (tgt := 351) C.1 C.2.1 dL_holds_347 (by decide) ?_
                    exact hj333_42 _ _ _ _ h (Or.inr rfl) B (lv_sub hl [2, 3, 4] rfl)
                  · refine jr_iconst C dL_holds_350 ?_
                    exact hj333_42 _ _ _ _ h (Or.inl rfl) B (lv_sub hl [2, 3, 4] rfl)
              have hL129 : ∀ (n : Nat) (x36 : Int) (x37 : Int) (x38 : Int) (H : Heap) (locs : List Loc) (ls : Array Slot), lp_L_holds_129 N a1 x33 M6 kx129 n x36 x37 x38 → (x36 = 0 ∨ x36 = 1) → jR x37 → jR x38 → Hp G M6 s.heap H locs → lv_has ls 7 [(1, .int (jI x36)), (4, .int (jI x37)), (5, .int (jI x38)), (3, .int (jI x33)), (2, .int (jI x5)), (0, .ref (jD G a1))] → W p l e (rmm 6 150) s m args below meth c H locs 0 0 (MQ below (qZ G k) args s 0 0 (gA G)) (F0 m 129 ls []) := by
                intro n
                induction n with
                | zero => intro x36 x37 x38 H locs ls h; exact (show False from h).elim
                | succ n ih129 =>
                  intro x36 x37 x38 H locs ls h z_x36 r_x37 r_x38 B hl
                  rw [lp_L_holds_129] at h
                  refine lv_iload C.1 C.2.1 dL_holds_129 (lv_at hl 2 rfl) ?_
                  refine jr_iconst C dL_holds_131 ?_
                  refine jr_icmp_ge (tgt := 332) C r_x38 (jkc rfl) h dL_holds_132 (by decide) (fun hc132 h => ?_) (fun hc132 h => ?_)
                  · refine lv_iload_n C.1 C.2.1 dL_holds_135 rfl (lv_at hl 0 rfl) ?_
                    refine jr_if_eq (tgt := 332) C (zR z_x36) h dL_holds_136 (by decide) (fun hc136 h => ?_) (fun hc136 h => ?_)
                    · exact hkx129 _ _ _ _ _ h z_x36 r_x37 B (lv_sub hl [0, 1, 3, 4, 5] rfl)
                    · refine lv_aload_n C.1 C.2.1 dL_holds_139 rfl (lv_at hl 5 rfl) ?_
                      refine lv_iload C.1 C.2.1 dL_holds_140 (lv_at hl 2 rfl) ?_
                      refine cl_X6_associated C hl.1 B q_238 ⟨Nat.le_of_ble_eq_true rfl, Nat.le_of_ble_eq_true rfl⟩ ⟨Nat.zero_le _, Nat.zero_le _⟩ (Nat.le_of_ble_eq_true rfl) k_a1 r_x38 h dL_holds_142 (fun x53 r_x53 _ _ h B => ?_)
                      refine jr_iconst C dL_holds_145 ?_
                      obtain ⟨j146_55, hj146_55, h⟩ := jx_join (P := fun j146_55 : Int → Prop => ∀ (x54 : Int) (H : Heap) (locs : List Loc) (ls : Array Slot), j146_55 x54 → jR x54 → Hp G M6 s.heap H locs → lv_has ls 7 [(5, .int (jI x38)), (3, .int (jI x33)), (2, .int (jI x5)), (0, .ref (jD G a1))] → W p l e (rmm 6 150) s m args below meth c H locs 0 0 (MQ below (qZ G k) args s 0 0 (gA G)) (F0 m 173 ls [.int (jI x54)])) h (by
                        intro x54 H locs ls h r_x54 B hl
                        refine lv_istore (lv' := [(4, .int (jI x54)), (5, .int (jI x38)), (3, .int (jI x33)), (2, .int (jI x5)), (0, .ref (jD G a1))]) C.1 C.2.1 dL_holds_173 hl (by decide) rfl (fun ls hl => ?_)
                        refine lv_aload_n C.1 C.2.1 dL_holds_175 rfl (lv_at hl 4 rfl) ?_
                        refine lv_iload_n C.1 C.2.1 dL_holds_176 rfl (lv_at hl 2 rfl) ?_
                        refine lv_iload C.1 C.2.1 dL_holds_177 (lv_at hl 1 rfl) ?_
                        refine cl_X6_values C hl.1 B q_275 ⟨Nat.le_of_ble_eq_true rfl, Nat.le_of_ble_eq_true rfl⟩ ⟨Nat.zero_le _, Nat.zero_le _⟩ (Nat.le_of_ble_eq_true rfl) k_a1 r_x33 r_x38 h dL_holds_179 (fun x56 r_x56 _ _ h B => ?_)
                        obtain ⟨j182_58, hj182_58, h⟩ := jx_join (P := fun j182_58 : Int → Prop => ∀ (x57 : Int) (H : Heap) (locs : List Loc) (ls : Array Slot), j182_58 x57 → (x57 = 0 ∨ x57 = 1) → Hp G M6 s.heap H locs → lv_has ls 7 [(4, .int (jI x54)), (5, .int (jI x38)), (3, .int (jI x33)), (2, .int (jI x5)), (0, .ref (jD G a1))] → W p l e (rmm 6 150) s m args below meth c H locs 0 0 (MQ below (qZ G k) args s 0 0 (gA G)) (F0 m 220 ls [.int (jI x57)])) h (by
                          intro x57 H locs ls h z_x57 B hl
                          refine lv_istore_n (lv' := [(1, .int (jI x57)), (4, .int (jI x54)), (5, .int (jI x38)), (3, .int (jI x33)), (2, .int (jI x5)), (0, .ref (jD G a1))]) C.1 C.2.1 dL_holds_220 rfl hl (by decide) rfl (fun ls hl => ?_)
                          refine jr_iconst C dL_holds_221 ?_
                          refine lv_istore (lv' := [(6, .int (jI 0)), (1, .int (jI x57)), (4, .int (jI x54)), (5, .int (jI x38)), (3, .int (jI x33)), (2, .int (jI x5)), (0, .ref (jD G a1))]) C.1 C.2.1 dL_holds_222 hl (by decide) rfl (fun ls hl => ?_)
                          obtain ⟨kx224, hkx224, h⟩ : ∃ kx224 : Int → Prop, (∀ (x61 : Int) (H : Heap) (locs : List Loc) (ls : Array Slot), kx224 x61 → (x61 = 0 ∨ x61 = 1) → Hp G M6 s.heap H locs → lv_has ls 7 [(1, .int (jI x61)), (4, .int (jI x54)), (5, .int (jI x38)), (3, .int (jI x33)), (2, .int (jI x5)), (0, .ref (jD G a1))] → W p l e (rmm 6 150) s m args below meth c H locs 0 0 (MQ below (qZ G k) args s 0 0 (gA G)) (F0 m 326 ls [])) ∧ lp_L_holds_224 N a1 x33 x38 M6 kx224 N x57 0 := by
                            refine ⟨_, ?_, h⟩
                            intro x61 H locs ls h z_x61 B hl
                            refine jr_iinc (k := 2) (lv' := fun x62 => [(5, .int (jI x62)), (1, .int (jI x61)), (4, .int (jI x54)), (3, .int (jI x33)), (2, .int (jI x5)), (0, .ref (jD G a1))]) C h hl rfl (by decide) (fun _ => rfl) dL_holds_326 (fun x62 h r_x62 ls hl => ?_)
                            refine lv_goto (tgt := 129) C.1 C.2.1 dL_holds_329 (by decide) ?_
                            exact ih129 _ _ _ _ _ _ h z_x61 r_x54 r_x62 B (lv_sub hl [1, 2, 0, 3, 4, 5] rfl)
                          have hL224 : ∀ (n : Nat) (x59 : Int) (x60 : Int) (H : Heap) (locs : List Loc) (ls : Array Slot), lp_L_holds_224 N a1 x33 x38 M6 kx224 n x59 x60 → (x59 = 0 ∨ x59 = 1) → jR x60 → Hp G M6 s.heap H locs → lv_has ls 7 [(1, .int (jI x59)), (6, .int (jI x60)), (4, .int (jI x54)), (5, .int (jI x38)), (3, .int (jI x33)), (2, .int (jI x5)), (0, .ref (jD G a1))] → W p l e (rmm 6 150) s m args below meth c H locs 0 0 (MQ below (qZ G k) args s 0 0 (gA G)) (F0 m 224 ls []) := by
                            intro n
                            induction n with
                            | zero => intro x59 x60 H locs ls h; exact (show False from h).elim
                            | succ n ih224 =>
                              intro x59 x60 H locs ls h z_x59 r_x60 B hl
                              rw [lp_L_holds_224] at h
                              refine lv_iload C.1 C.2.1 dL_holds_224 (lv_at hl 1 rfl) ?_
                              refine lv_aload_n C.1 C.2.1 dL_holds_226 rfl (lv_at hl 6 rfl) ?_
                              refine lv_iload_n C.1 C.2.1 dL_holds_227 rfl (lv_at hl 4 rfl) ?_
                              refine lv_iload C.1 C.2.1 dL_holds_228 (lv_at hl 3 rfl) ?_
                              refine cl_X6_values C hl.1 B q_275 ⟨Nat.le_of_ble_eq_true rfl, Nat.le_of_ble_eq_true rfl⟩ ⟨Nat.zero_le _, Nat.zero_le _⟩ (Nat.le_of_ble_eq_true rfl) k_a1 r_x33 r_x38 h dL_holds_230 (fun x63 r_x63 _ _ h B => ?_)
                              refine jr_icmp_ge (tgt := 326) C r_x60 r_x63 h dL_holds_233 (by decide) (fun hc233 h => ?_) (fun hc233 h => ?_)
                              · refine lv_iload_n C.1 C.2.1 dL_holds_236 rfl (lv_at hl 0 rfl) ?_
                                refine jr_if_eq (tgt := 326) C (zR z_x59) h dL_holds_237 (by decide) (fun hc237 h => ?_) (fun hc237 h => ?_)
                                · exact hkx224 _ _ _ _ h z_x59 B (lv_sub hl [0, 2, 3, 4, 5, 6] rfl)
                                · refine lv_aload_n C.1 C.2.1 dL_holds_240 rfl (lv_at hl 6 rfl) ?_
                                  refine lv_iload_n C.1 C.2.1 dL_holds_241 rfl (lv_at hl 4 rfl) ?_
                                  refine lv_iload C.1 C.2.1 dL_holds_242 (lv_at hl 3 rfl) ?_
                                  refine lv_iload C.1 C.2.1 dL_holds_244 (lv_at hl 1 rfl) ?_
                                  refine cl_X6_subvalues C hl.1 B q_283 ⟨Nat.le_of_ble_eq_true rfl, Nat.le_of_ble_eq_true rfl⟩ ⟨Nat.zero_le _, Nat.zero_le _⟩ (Nat.le_of_ble_eq_true rfl) k_a1 r_x33 r_x38 r_x60 h dL_holds_246 (fun x64 r_x64 _ _ h B => ?_)
                                  refine jr_iconst C dL_holds_249 ?_
                                  refine jr_icmp_lt (tgt := 318) C r_x64 (jkc rfl) h dL_holds_250 (by decide) (fun hc250 h => ?_) (fun hc250 h => ?_)
                                  · refine jr_iconst C dL_holds_318 ?_
                                    refine lv_istore_n (lv' := [(1, .int (jI 0)), (6, .int (jI x60)), (4, .int (jI x54)), (5, .int (jI x38)), (3, .int (jI x33)), (2, .int (jI x5)), (0, .ref (jD G a1))]) C.1 C.2.1 dL_holds_319 rfl hl (by decide) rfl (fun ls hl => ?_)
                                    refine jr_iinc (k := 1) (lv' := fun x65 => [(6, .int (jI x65)), (1, .int (jI 0)), (4, .int (jI x54)), (5, .int (jI x38)), (3, .int (jI x33)), (2, .int (jI x5)), (0, .ref (jD G a1))]) C h hl rfl (by decide) (fun _ => rfl) dL_holds_320 (fun x65 h r_x65 ls hl => ?_)
                                    refine lv_goto (tgt := 224) C.1 C.2.1 dL_holds_323 (by decide) ?_
                                    exact ih224 _ _ _ _ _ h (Or.inl rfl) r_x65 B (lv_sub hl [1, 0, 2, 3, 4, 5, 6] rfl)
                                  · refine lv_aload_n C.1 C.2.1 dL_holds_253 rfl (lv_at hl 6 rfl) ?_
                                    refine lv_iload_n C.1 C.2.1 dL_holds_254 rfl (lv_at hl 4 rfl) ?_
                                    refine lv_iload C.1 C.2.1 dL_holds_255 (lv_at hl 3 rfl) ?_
                                    refine lv_iload C.1 C.2.1 dL_holds_257 (lv_at hl 1 rfl) ?_
                                    refine cl_X6_subvalues C hl.1 B q_283 ⟨Nat.le_of_ble_eq_true rfl, Nat.le_of_ble_eq_true rfl⟩ ⟨Nat.zero_le _, Nat.zero_le _⟩ (Nat.le_of_ble_eq_true rfl) k_a1 r_x33 r_x38 r_x60 h dL_holds_259 (fun x66 r_x66 _ _ h B => ?_)
                                    refine jr_iconst C dL_holds_262 ?_
                                    refine jr_icmp_gt (tgt := 318) C r_x66 (jkc rfl) h dL_holds_263 (by decide) (fun hc263 h => ?_) (fun hc263 h => ?_)
                                    · refine lv_aload_n C.1 C.2.1 dL_holds_266 rfl (lv_at hl 6 rfl) ?_
                                      refine lv_iload_n C.1 C.2.1 dL_holds_267 rfl (lv_at hl 4 rfl) ?_
                                      refine lv_iload C.1 C.2.1 dL_holds_268 (lv_at hl 3 rfl) ?_
                                      refine lv_iload C.1 C.2.1 dL_holds_270 (lv_at hl 1 rfl) ?_
                                      refine lv_aload_n C.1 C.2.1 dL_holds_272 rfl (lv_at hl 6 rfl) ?_
                                      refine lv_iload_n C.1 C.2.1 dL_holds_273 rfl (lv_at hl 4 rfl) ?_
                                      refine lv_iload C.1 C.2.1 dL_holds_274 (lv_at hl 3 rfl) ?_
                                      refine lv_iload C.1 C.2.1 dL_holds_276 (lv_at hl 1 rfl) ?_
                                      refine cl_X6_subvalues C hl.1 B q_283 ⟨Nat.le_of_ble_eq_true rfl, Nat.le_of_ble_eq_true rfl⟩ ⟨Nat.zero_le _, Nat.zero_le _⟩ (Nat.le_of_ble_eq_true rfl) k_a1 r_x33 r_x38 r_x60 h dL_holds_278 (fun x67 r_x67 _ _ h B => ?_)
                                      refine cl_X6_get C hl.1 B q_296 ⟨Nat.le_of_ble_eq_true rfl, Nat.le_of_ble_eq_true rfl⟩ ⟨Nat.zero_le _, Nat.zero_le _⟩ (Nat.le_of_ble_eq_true rfl) k_a1 r_x33 r_x38 r_x60 r_x67 h dL_holds_281 (fun x68 r_x68 _ _ h B => ?_)
                                      refine jr_ldc (n := -1000001) C q_315 (by decide) dL_holds_284 ?_
                                      refine jr_icmp_ne (tgt := 318) C r_x68 (jkc rfl) h dL_holds_286 (by decide) (fun hc286 h => ?_) (fun hc286 h => ?_)
                                      · refine lv_aload_n C.1 C.2.1 dL_holds_289 rfl (lv_at hl 6 rfl) ?_
                                        refine lv_iload_n C.1 C.2.1 dL_holds_290 rfl (lv_at hl 4 rfl) ?_
                                        refine lv_iload C.1 C.2.1 dL_holds_291 (lv_at hl 3 rfl) ?_
                                        refine lv_aload_n C.1 C.2.1 dL_holds_293 rfl (lv_at hl 6 rfl) ?_
                                        refine lv_iload_n C.1 C.2.1 dL_holds_294 rfl (lv_at hl 4 rfl) ?_
                                        refine lv_iload C.1 C.2.1 dL_holds_295 (lv_at hl 3 rfl) ?_
                                        refine lv_iload C.1 C.2.1 dL_holds_297 (lv_at hl 1 rfl) ?_
                                        refine jr_iconst C dL_holds_299 ?_
                                        refine cl_X6_get C hl.1 B q_296 ⟨Nat.le_of_ble_eq_true rfl, Nat.le_of_ble_eq_true rfl⟩ ⟨Nat.zero_le _, Nat.zero_le _⟩ (Nat.le_of_ble_eq_true rfl) k_a1 r_x33 r_x38 r_x60 (jkc rfl) h dL_holds_300 (fun x69 r_x69 _ _ h B => ?_)
                                        refine cl_X6_locate C hl.1 B q_316 ⟨Nat.le_of_ble_eq_true rfl, Nat.le_of_ble_eq_true rfl⟩ ⟨Nat.zero_le _, Nat.zero_le _⟩ (Nat.le_of_ble_eq_true rfl) k_a1 r_x33 r_x38 r_x69 h dL_holds_303 (fun x70 r_x70 _ _ h B => ?_)
                                        refine jr_bipush C dL_holds_306 (by decide) ?_
                                        refine lv_iload C.1 C.2.1 dL_holds_308 (lv_at hl 1 rfl) ?_
                                        refine jr_imul C dL_holds_310 ?_
                                        refine jr_icmp_gt (tgt := 318) C r_x70 (jW_R _) h dL_holds_311 (by decide) (fun hc311 h => ?_) (fun hc311 h => ?_)
                                        · refine jr_iconst C dL_holds_314 ?_
                                          refine lv_goto (tgt := 319) C.1 C.2.1 dL_holds_315 (by decide) ?_
                                          refine lv_istore_n (lv' := [(1, .int (jI 1)), (6, .int (jI x60)), (4, .int (jI x54)), (5, .int (jI x38)), (3, .int (jI x33)), (2, .int (jI x5)), (0, .ref (jD G a1))]) C.1 C.2.1 dL_holds_319 rfl hl (by decide) rfl (fun ls hl => ?_)
                                          refine jr_iinc (k := 1) (lv' := fun x71 => [(6, .int (jI x71)), (1, .int (jI 1)), (4, .int (jI x54)), (5, .int (jI x38)), (3, .int (jI x33)), (2, .int (jI x5)), (0, .ref (jD G a1))]) C h hl rfl (by decide) (fun _ => rfl) dL_holds_320 (fun x71 h r_x71 ls hl => ?_)
                                          refine lv_goto (tgt := 224) C.1 C.2.1 dL_holds_323 (by decide) ?_
                                          exact ih224 _ _ _ _ _ h (Or.inr rfl) r_x71 B (lv_sub hl [1, 0, 2, 3, 4, 5, 6] rfl)
                                        · refine jr_iconst C dL_holds_318 ?_
                                          refine lv_istore_n (lv' := [(1, .int (jI 0)), (6, .int (jI x60)), (4, .int (jI x54)), (5, .int (jI x38)), (3, .int (jI x33)), (2, .int (jI x5)), (0, .ref (jD G a1))]) C.1 C.2.1 dL_holds_319 rfl hl (by decide) rfl (fun ls hl => ?_)
                                          refine jr_iinc (k := 1) (lv' := fun x72 => [(6, .int (jI x72)), (1, .int (jI 0)), (4, .int (jI x54)), (5, .int (jI x38)), (3, .int (jI x33)), (2, .int (jI x5)), (0, .ref (jD G a1))]) C h hl rfl (by decide) (fun _ => rfl) dL_holds_320 (fun x72 h r_x72 ls hl => ?_)
                                          refine lv_goto (tgt := 224) C.1 C.2.1 dL_holds_323 (by decide) ?_
                                          exact ih224 _ _ _ _ _ h (Or.inl rfl) r_x72 B (lv_sub hl [1, 0, 2, 3, 4, 5, 6] rfl)
                                      · refine jr_iconst C dL_holds_318 ?_
                                        refine lv_istore_n (lv' := [(1, .int (jI 0)), (6, .int (jI x60)), (4, .int (jI x54)), (5, .int (jI x38)), (3, .int (jI x33)), (2, .int (jI x5)), (0, .ref (jD G a1))]) C.1 C.2.1 dL_holds_319 rfl hl (by decide) rfl (fun ls hl => ?_)
                                        refine jr_iinc (k := 1) (lv' := fun x73 => [(6, .int (jI x73)), (1, .int (jI 0)), (4, .int (jI x54)), (5, .int (jI x38)), (3, .int (jI x33)), (2, .int (jI x5)), (0, .ref (jD G a1))]) C h hl rfl (by decide) (fun _ => rfl) dL_holds_320 (fun x73 h r_x73 ls hl => ?_)
                                        refine lv_goto (tgt := 224) C.1 C.2.1 dL_holds_323 (by decide) ?_
                                        exact ih224 _ _ _ _ _ h (Or.inl rfl) r_x73 B (lv_sub hl [1, 0, 2, 3, 4, 5, 6] rfl)
                                    · refine jr_iconst C dL_holds_318 ?_
                                      refine lv_istore_n (lv' := [(1, .int (jI 0)), (6, .int (jI x60)), (4, .int (jI x54)), (5, .int (jI x38)), (3, .int (jI x33)), (2, .int (jI x5)), (0, .ref (jD G a1))]) C.1 C.2.1 dL_holds_319 rfl hl (by decide) rfl (fun ls hl => ?_)
                                      refine jr_iinc (k := 1) (lv' := fun x74 => [(6, .int (jI x74)), (1, .int (jI 0)), (4, .int (jI x54)), (5, .int (jI x38)), (3, .int (jI x33)), (2, .int (jI x5)), (0, .ref (jD G a1))]) C h hl rfl (by decide) (fun _ => rfl) dL_holds_320 (fun x74 h r_x74 ls hl => ?_)
                                      refine lv_goto (tgt := 224) C.1 C.2.1 dL_holds_323 (by decide) ?_
                                      exact ih224 _ _ _ _ _ h (Or.inl rfl) r_x74 B (lv_sub hl [1, 0, 2, 3, 4, 5, 6] rfl)
                              · exact hkx224 _ _ _ _ h z_x59 B (lv_sub hl [0, 2, 3, 4, 5, 6] rfl)
                          exact hL224 N _ _ _ _ _ h z_x57 (jkc rfl) B (lv_sub hl [1, 0, 2, 3, 4, 5, 6] rfl))
                        refine jr_if_lt (tgt := 219) C r_x56 h dL_holds_182 (by decide) (fun hc182 h => ?_) (fun hc182 h => ?_)
                        · refine jr_iconst C dL_holds_219 ?_
                          exact hj182_58 _ _ _ _ h (Or.inl rfl) B (lv_sub hl [0, 1, 2, 3, 4] rfl)
                        · refine lv_aload_n C.1 C.2.1 dL_holds_185 rfl (lv_at hl 4 rfl) ?_
                          refine lv_iload_n C.1 C.2.1 dL_holds_186 rfl (lv_at hl 2 rfl) ?_
                          refine lv_iload C.1 C.2.1 dL_holds_187 (lv_at hl 1 rfl) ?_
                          refine cl_X6_values C hl.1 B q_275 ⟨Nat.le_of_ble_eq_true rfl, Nat.le_of_ble_eq_true rfl⟩ ⟨Nat.zero_le _, Nat.zero_le _⟩ (Nat.le_of_ble_eq_true rfl) k_a1 r_x33 r_x38 h dL_holds_189 (fun x75 r_x75 _ _ h B => ?_)
                          refine jr_iconst C dL_holds_192 ?_
                          refine jr_icmp_gt (tgt := 219) C r_x75 (jkc rfl) h dL_holds_193 (by decide) (fun hc193 h => ?_) (fun hc193 h => ?_)
                          · refine lv_aload_n C.1 C.2.1 dL_holds_196 rfl (lv_at hl 4 rfl) ?_
                            refine lv_iload_n C.1 C.2.1 dL_holds_197 rfl (lv_at hl 2 rfl) ?_
                            refine lv_iload C.1 C.2.1 dL_holds_198 (lv_at hl 1 rfl) ?_
                            refine lv_aload_n C.1 C.2.1 dL_holds_200 rfl (lv_at hl 4 rfl) ?_
                            refine lv_iload_n C.1 C.2.1 dL_holds_201 rfl (lv_at hl 2 rfl) ?_
                            refine lv_iload C.1 C.2.1 dL_holds_202 (lv_at hl 1 rfl) ?_
                            refine cl_X6_values C hl.1 B q_275 ⟨Nat.le_of_ble_eq_true rfl, Nat.le_of_ble_eq_true rfl⟩ ⟨Nat.zero_le _, Nat.zero_le _⟩ (Nat.le_of_ble_eq_true rfl) k_a1 r_x33 r_x38 h dL_holds_204 (fun x76 r_x76 _ _ h B => ?_)
                            refine cl_X6_subvalues C hl.1 B q_283 ⟨Nat.le_of_ble_eq_true rfl, Nat.le_of_ble_eq_true rfl⟩ ⟨Nat.zero_le _, Nat.zero_le _⟩ (Nat.le_of_ble_eq_true rfl) k_a1 r_x33 r_x38 r_x76 h dL_holds_207 (fun x77 r_x77 _ _ h B => ?_)
                            refine jr_ldc (n := -1000001) C q_315 (by decide) dL_holds_210 ?_
                            refine jr_icmp_ne (tgt := 219) C r_x77 (jkc rfl) h dL_holds_212 (by decide) (fun hc212 h => ?_) (fun hc212 h => ?_)
                            · refine jr_iconst C dL_holds_215 ?_
                              refine lv_goto (tgt := 220) C.1 C.2.1 dL_holds_216 (by decide) ?_
                              exact hj182_58 _ _ _ _ h (Or.inr rfl) B (lv_sub hl [0, 1, 2, 3, 4] rfl)
                            · refine jr_iconst C dL_holds_219 ?_
                              exact hj182_58 _ _ _ _ h (Or.inl rfl) B (lv_sub hl [0, 1, 2, 3, 4] rfl)
                          · refine jr_iconst C dL_holds_219 ?_
                            exact hj182_58 _ _ _ _ h (Or.inl rfl) B (lv_sub hl [0, 1, 2, 3, 4] rfl))
                      refine jr_icmp_ne (tgt := 171) C r_x53 (jkc rfl) h dL_holds_146 (by decide) (fun hc146 h => ?_) (fun hc146 h => ?_)
                      · refine lv_aload_n C.1 C.2.1 dL_holds_149 rfl (lv_at hl 5 rfl) ?_
                        refine lv_iload_n C.1 C.2.1 dL_holds_150 rfl (lv_at hl 3 rfl) ?_
                        refine lv_iload C.1 C.2.1 dL_holds_151 (lv_at hl 2 rfl) ?_
                        refine cl_X6_values C hl.1 B q_275 ⟨Nat.le_of_ble_eq_true rfl, Nat.le_of_ble_eq_true rfl⟩ ⟨Nat.zero_le _, Nat.zero_le _⟩ (Nat.le_of_ble_eq_true rfl) k_a1 r_x33 r_x38 h dL_holds_153 (fun x78 r_x78 _ _ h B => ?_)
                        refine lv_iload C.1 C.2.1 dL_holds_156 (lv_at hl 1 rfl) ?_
                        refine jr_icmp_le (tgt := 171) C r_x78 r_x37 h dL_holds_158 (by decide) (fun hc158 h => ?_) (fun hc158 h => ?_)
                        · refine lv_iload C.1 C.2.1 dL_holds_171 (lv_at hl 1 rfl) ?_
                          exact hj146_55 _ _ _ _ h r_x37 B (lv_sub hl [2, 3, 4, 5] rfl)
                        · refine lv_aload_n C.1 C.2.1 dL_holds_161 rfl (lv_at hl 5 rfl) ?_
                          refine lv_iload_n C.1 C.2.1 dL_holds_162 rfl (lv_at hl 3 rfl) ?_
                          refine lv_iload C.1 C.2.1 dL_holds_163 (lv_at hl 2 rfl) ?_
                          refine cl_X6_values C hl.1 B q_275 ⟨Nat.le_of_ble_eq_true rfl, Nat.le_of_ble_eq_true rfl⟩ ⟨Nat.zero_le _, Nat.zero_le _⟩ (Nat.le_of_ble_eq_true rfl) k_a1 r_x33 r_x38 h dL_holds_165 (fun x79 r_x79 _ _ h B => ?_)
                          refine lv_goto (tgt := 173) C.1 C.2.1 dL_holds_168 (by decide) ?_
                          exact hj146_55 _ _ _ _ h r_x79 B (lv_sub hl [2, 3, 4, 5] rfl)
                      · refine lv_iload C.1 C.2.1 dL_holds_171 (lv_at hl 1 rfl) ?_
                        exact hj146_55 _ _ _ _ h r_x37 B (lv_sub hl [2, 3, 4, 5] rfl)
                  · exact hkx129 _ _ _ _ _ h z_x36 r_x37 B (lv_sub hl [0, 1, 3, 4, 5] rfl)
              exact hL129 N _ _ _ _ _ _ h z_x34 (jkc rfl) (jkc rfl) B (lv_sub hl [1, 2, 0, 3, 4, 5] rfl))
            refine jr_if_lt (tgt := 124) C r_x33 h dL_holds_69 (by decide) (fun hc69 h => ?_) (fun hc69 h => ?_)
            · refine jr_iconst C dL_holds_124 ?_
              exact hj69_35 _ _ _ _ h (Or.inl rfl) B (lv_sub hl [0, 1, 3, 4] rfl)
            · refine lv_iload_n C.1 C.2.1 dL_holds_72 rfl (lv_at hl 1 rfl) ?_
              refine jr_bipush C dL_holds_73 (by decide) ?_
              refine jr_icmp_ge (tgt := 124) C r_x33 (jkc rfl) h dL_holds_75 (by decide) (fun hc75 h => ?_) (fun hc75 h => ?_)
              · refine lv_iload_n C.1 C.2.1 dL_holds_78 rfl (lv_at hl 3 rfl) ?_
                obtain ⟨j79_80, hj79_80, h⟩ := jx_join (P := fun j79_80 : Prop => ∀ (H : Heap) (locs : List Loc) (ls : Array Slot), j79_80 → Hp G M6 s.heap H locs → lv_has ls 7 [(4, .int (jI 0)), (3, .int (jI x33)), (2, .int (jI x5)), (0, .ref (jD G a1))] → W p l e (rmm 6 150) s m args below meth c H locs 0 0 (MQ below (qZ G k) args s 0 0 (gA G)) (F0 m 93 ls [])) h (by
                  intro H locs ls h  B hl
                  refine lv_aload_n C.1 C.2.1 dL_holds_93 rfl (lv_at hl 3 rfl) ?_
                  refine lv_iload_n C.1 C.2.1 dL_holds_94 rfl (lv_at hl 1 rfl) ?_
                  refine cl_X6_locker C hl.1 B q_267 ⟨Nat.le_of_ble_eq_true rfl, Nat.le_of_ble_eq_true rfl⟩ ⟨Nat.zero_le _, Nat.zero_le _⟩ (Nat.le_of_ble_eq_true rfl) k_a1 r_x33 h dL_holds_95 (fun x81 r_x81 _ _ h B => ?_)
                  refine jr_ldc (n := -1000007) C q_313 (by decide) dL_holds_98 ?_
                  refine jr_icmp_eq (tgt := 120) C r_x81 (jkc rfl) h dL_holds_100 (by decide) (fun hc100 h => ?_) (fun hc100 h => ?_)
                  · refine jr_iconst C dL_holds_120 ?_
                    refine lv_goto (tgt := 125) C.1 C.2.1 dL_holds_121 (by decide) ?_
                    exact hj69_35 _ _ _ _ h (Or.inr rfl) B (lv_sub hl [0, 1, 2, 3] rfl)
                  · refine lv_aload_n C.1 C.2.1 dL_holds_103 rfl (lv_at hl 3 rfl) ?_
                    refine lv_iload_n C.1 C.2.1 dL_holds_104 rfl (lv_at hl 1 rfl) ?_
                    refine cl_X6_locker C hl.1 B q_267 ⟨Nat.le_of_ble_eq_true rfl, Nat.le_of_ble_eq_true rfl⟩ ⟨Nat.zero_le _, Nat.zero_le _⟩ (Nat.le_of_ble_eq_true rfl) k_a1 r_x33 h dL_holds_105 (fun x82 r_x82 _ _ h B => ?_)
                    refine jr_if_lt (tgt := 124) C r_x82 h dL_holds_108 (by decide) (fun hc108 h => ?_) (fun hc108 h => ?_)
                    · refine jr_iconst C dL_holds_124 ?_
                      exact hj69_35 _ _ _ _ h (Or.inl rfl) B (lv_sub hl [0, 1, 2, 3] rfl)
                    · refine lv_aload_n C.1 C.2.1 dL_holds_111 rfl (lv_at hl 3 rfl) ?_
                      refine lv_iload_n C.1 C.2.1 dL_holds_112 rfl (lv_at hl 1 rfl) ?_
                      refine cl_X6_locker C hl.1 B q_267 ⟨Nat.le_of_ble_eq_true rfl, Nat.le_of_ble_eq_true rfl⟩ ⟨Nat.zero_le _, Nat.zero_le _⟩ (Nat.le_of_ble_eq_true rfl) k_a1 r_x33 h dL_holds_113 (fun x83 r_x83 _ _ h B => ?_)
                      refine jr_iconst C dL_holds_116 ?_
                      refine jr_icmp_ge (tgt := 124) C r_x83 (jkc rfl) h dL_holds_117 (by decide) (fun hc117 h => ?_) (fun hc117 h => ?_)
                      · refine jr_iconst C dL_holds_120 ?_
                        refine lv_goto (tgt := 125) C.1 C.2.1 dL_holds_121 (by decide) ?_
                        exact hj69_35 _ _ _ _ h (Or.inr rfl) B (lv_sub hl [0, 1, 2, 3] rfl)
                      · refine jr_iconst C dL_holds_124 ?_
                        exact hj69_35 _ _ _ _ h (Or.inl rfl) B (lv_sub hl [0, 1, 2, 3] rfl))
                refine jr_if_eq (tgt := 93) C r_x5 h dL_holds_79 (by decide) (fun hc79 h => ?_) (fun hc79 h => ?_)
                · exact hj79_80 _ _ _ h  B (lv_sub hl [0, 1, 3, 4] rfl)
                · refine lv_aload_n C.1 C.2.1 dL_holds_82 rfl (lv_at hl 4 rfl) ?_
                  refine lv_iload_n C.1 C.2.1 dL_holds_83 rfl (lv_at hl 3 rfl) ?_
                  refine jr_iconst C dL_holds_84 ?_
                  refine jr_isub C dL_holds_85 ?_
                  refine cl_X6_recordAt C hl.1 B q_263 ⟨Nat.le_of_ble_eq_true rfl, Nat.le_of_ble_eq_true rfl⟩ ⟨Nat.zero_le _, Nat.zero_le _⟩ (Nat.le_of_ble_eq_true rfl) k_a1 (jW_R _) h dL_holds_86 (fun x84 r_x84 _ _ h B => ?_)
                  refine lv_iload_n C.1 C.2.1 dL_holds_89 rfl (lv_at hl 1 rfl) ?_
                  refine jr_icmp_ge (tgt := 124) C r_x84 r_x33 h dL_holds_90 (by decide) (fun hc90 h => ?_) (fun hc90 h => ?_)
                  · exact hj79_80 _ _ _ h  B (lv_sub hl [0, 1, 3, 4] rfl)
                  · refine jr_iconst C dL_holds_124 ?_
                    exact hj69_35 _ _ _ _ h (Or.inl rfl) B (lv_sub hl [0, 1, 3, 4] rfl)
              · refine jr_iconst C dL_holds_124 ?_
                exact hj69_35 _ _ _ _ h (Or.inl rfl) B (lv_sub hl [0, 1, 3, 4] rfl)
        · exact hkx47 _ _ _ _ _ h z_x4 B (lv_sub hl [0, 2] rfl)
    exact hL47 N _ _ _ _ _ _ h z_x2 (jkc rfl) B (lv_sub hl [1, 0, 2] rfl))
  refine jr_if_lt (tgt := 43) C r_x1 h dL_holds_4 (by decide) (fun hc4 h => ?_) (fun hc4 h => ?_)
  · refine jr_iconst C dL_holds_43 ?_
    exact hj4_3 _ _ _ _ h (Or.inl rfl) B (lv_sub hl [0] rfl)
  · refine lv_aload_n C.1 C.2.1 dL_holds_7 rfl (lv_at hl 0 rfl) ?_
    refine cl_X6_records C hl.1 B q_259 ⟨Nat.le_of_ble_eq_true rfl, Nat.le_of_ble_eq_true rfl⟩ ⟨Nat.zero_le _, Nat.zero_le _⟩ (Nat.le_of_ble_eq_true rfl) k_a1 h dL_holds_8 (fun x85 r_x85 _ _ h B => ?_)
    refine jr_bipush C dL_holds_11 (by decide) ?_
    refine jr_icmp_gt (tgt := 43) C r_x85 (jkc rfl) h dL_holds_13 (by decide) (fun hc13 h => ?_) (fun hc13 h => ?_)
    · refine lv_aload_n C.1 C.2.1 dL_holds_16 rfl (lv_at hl 0 rfl) ?_
      refine lv_aload_n C.1 C.2.1 dL_holds_17 rfl (lv_at hl 0 rfl) ?_
      refine cl_X6_records C hl.1 B q_259 ⟨Nat.le_of_ble_eq_true rfl, Nat.le_of_ble_eq_true rfl⟩ ⟨Nat.zero_le _, Nat.zero_le _⟩ (Nat.le_of_ble_eq_true rfl) k_a1 h dL_holds_18 (fun x86 r_x86 _ _ h B => ?_)
      refine cl_X6_recordAt C hl.1 B q_263 ⟨Nat.le_of_ble_eq_true rfl, Nat.le_of_ble_eq_true rfl⟩ ⟨Nat.zero_le _, Nat.zero_le _⟩ (Nat.le_of_ble_eq_true rfl) k_a1 r_x86 h dL_holds_21 (fun x87 r_x87 _ _ h B => ?_)
      refine jr_ldc (n := -1000007) C q_313 (by decide) dL_holds_24 ?_
      refine jr_icmp_ne (tgt := 43) C r_x87 (jkc rfl) h dL_holds_26 (by decide) (fun hc26 h => ?_) (fun hc26 h => ?_)
      · refine lv_aload_n C.1 C.2.1 dL_holds_29 rfl (lv_at hl 0 rfl) ?_
        refine jr_iconst C dL_holds_30 ?_
        refine cl_X6_recordAt C hl.1 B q_263 ⟨Nat.le_of_ble_eq_true rfl, Nat.le_of_ble_eq_true rfl⟩ ⟨Nat.zero_le _, Nat.zero_le _⟩ (Nat.le_of_ble_eq_true rfl) k_a1 (jkc rfl) h dL_holds_31 (fun x88 r_x88 _ _ h B => ?_)
        refine jr_ldc (n := -1000002) C q_314 (by decide) dL_holds_34 ?_
        refine jr_icmp_ne (tgt := 43) C r_x88 (jkc rfl) h dL_holds_36 (by decide) (fun hc36 h => ?_) (fun hc36 h => ?_)
        · refine jr_iconst C dL_holds_39 ?_
          refine lv_goto (tgt := 44) C.1 C.2.1 dL_holds_40 (by decide) ?_
          exact hj4_3 _ _ _ _ h (Or.inr rfl) B (lv_sub hl [0] rfl)
        · refine jr_iconst C dL_holds_43 ?_
          exact hj4_3 _ _ _ _ h (Or.inl rfl) B (lv_sub hl [0] rfl)
      · refine jr_iconst C dL_holds_43 ?_
        exact hj4_3 _ _ _ _ h (Or.inl rfl) B (lv_sub hl [0] rfl)
    · refine jr_iconst C dL_holds_43 ?_
      exact hj4_3 _ _ _ _ h (Or.inl rfl) B (lv_sub hl [0] rfl)
theorem cl_L_holds {p : Program} {l : Launch} {e : Env} {R : Room} {s : State} {m : MethodId} {args : Array Value} {below : List Frame} {meth : Method} {c : Code} {H : Heap} {locs : List Loc} {cells slots : Nat} {Q : State → Prop} {cc : ByteArray} {nL : Nat} {own : String} {G : jG} {H0 : Heap} {pc idx : Nat} {ls : Array Slot} {rest : List Value} {N : Nat} {M : jM} {a1 : Int} {k : Int → jM → Prop} (C : Cx G p s args m c cc nL own) (hl : ls.size = nL) (B : Hp G M H0 H locs) (q1 : Cond.methodLink own idx yL_holds ∈ tb) (hR : (rmm 6 150).frames + 1 ≤ R.frames ∧ 8 + (7 + 11) + (rmm 6 150).locals ≤ R.locals) (hcs : cells ≤ R.cells ∧ slots ≤ R.slots) (hW : (rest.map fun v => v.category).sum ≤ 8) (k_a1 : jK a1 = 7) (h : w_L_holds N M a1 k) (hdg : decode cc pc = .ok (.invokestatic idx, 3)) (kk : ∀ (r : Int) (M' : jM), (r = 0 ∨ r = 1) → ∀ (H1 : Heap) (locs1 : List Loc), k r M' → Hp G M' H0 H1 locs1 → W p l e R s m args below meth c H1 locs1 cells slots Q (F0 m (pc + 3) ls (.int (jI r) :: rest))) : W p l e R s m args below meth c H locs cells slots Q (F0 m pc ls (.ref (jD G a1) :: rest)) :=
  jr_callZ B (jr_runS (As := [.ref (jD G a1)]) (n := 1) C hl B (m_L_holds B.2.2 k_a1 h) q1 q_311 q_312 q_0 ⟨by decide, by decide, by decide +kernel⟩ rfl ⟨rfl, rfl⟩ hR hcs rfl hW hdg) (fun r M' H1 locs1 hr hk B1 => kk r M' hr H1 locs1 hk B1)
