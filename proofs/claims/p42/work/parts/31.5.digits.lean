def w_L_digits (M : jM) (a1 : Int) (a2 : Int) (k : Int → jM → Prop) : Prop := (jL (fun (x1 : Int) => (if a2 < 0 then (w_X6_append M a1 45 (fun x3 M4 => (if x3 ≤ 0 then (k 0 M4) else (if x1 < 100 then (if x1 < 10 then (w_X6_append M4 a1 (jW (48 + (jRem x1 10))) (fun x5 M6 => (if x5 ≤ 0 then (k 0 M6) else (k 1 M6)))) else (w_X6_append M4 a1 (jW (48 + (jRem (jDiv x1 10) 10))) (fun x7 M8 => (if x7 ≤ 0 then (k 0 M8) else (w_X6_append M8 a1 (jW (48 + (jRem x1 10))) (fun x9 M10 => (if x9 ≤ 0 then (k 0 M10) else (k 1 M10)))))))) else (w_X6_append M4 a1 (jW (48 + (jRem (jDiv x1 100) 10))) (fun x11 M12 => (if x11 ≤ 0 then (k 0 M12) else (if x1 < 10 then (w_X6_append M12 a1 (jW (48 + (jRem x1 10))) (fun x13 M14 => (if x13 ≤ 0 then (k 0 M14) else (k 1 M14)))) else (w_X6_append M12 a1 (jW (48 + (jRem (jDiv x1 10) 10))) (fun x15 M16 => (if x15 ≤ 0 then (k 0 M16) else (w_X6_append M16 a1 (jW (48 + (jRem x1 10))) (fun x17 M18 => (if x17 ≤ 0 then (k 0 M18) else (k 1 M18))))))))))))))) else (if x1 < 100 then (if x1 < 10 then (w_X6_append M a1 (jW (48 + (jRem x1 10))) (fun x19 M20 => (if x19 ≤ 0 then (k 0 M20) else (k 1 M20)))) else (w_X6_append M a1 (jW (48 + (jRem (jDiv x1 10) 10))) (fun x21 M22 => (if x21 ≤ 0 then (k 0 M22) else (w_X6_append M22 a1 (jW (48 + (jRem x1 10))) (fun x23 M24 => (if x23 ≤ 0 then (k 0 M24) else (k 1 M24)))))))) else (w_X6_append M a1 (jW (48 + (jRem (jDiv x1 100) 10))) (fun x25 M26 => (if x25 ≤ 0 then (k 0 M26) else (if x1 < 10 then (w_X6_append M26 a1 (jW (48 + (jRem x1 10))) (fun x27 M28 => (if x27 ≤ 0 then (k 0 M28) else (k 1 M28)))) else (w_X6_append M26 a1 (jW (48 + (jRem (jDiv x1 10) 10))) (fun x29 M30 => (if x29 ≤ 0 then (k 0 M30) else (w_X6_append M30 a1 (jW (48 + (jRem x1 10))) (fun x31 M32 => (if x31 ≤ 0 then (k 0 M32) else (k 1 M32)))))))))))))) (fun j1_2 => (if a2 < 0 then (j1_2 (jW (-a2))) else (j1_2 a2))))
set_option maxHeartbeats 4000000 in
set_option maxRecDepth 100000 in
theorem m_L_digits {l : Launch} {G : jG} {M : jM} {a1 a2 : Int} {k : Int → jM → Prop} (o_M : jOK M) (k_a1 : jK a1 = 7) (r_a2 : jR a2) (h : w_L_digits M a1 a2 k) : Met l yL_digits (wsG yL_digits cL_digits 3 (some .boolean)) (rmm 2 42) (jPc G M [.ref (jD G a1), .int (jI a2)]) (qZ G k) 0 0 (gA G) := by
  refine jm_start RL rfl (by decide) (Nat.le_of_ble_eq_true rfl) o_M ?_
  intro p e s m args below meth c ls C hr hlocks hl B
  have hl : lv_has ls 3 [(0, .ref (jD G a1)), (1, .int (jI a2))] := hl
  unfold w_L_digits at h
  refine lv_iload_n C.1 C.2.1 dL_digits_0 rfl (lv_at hl 1 rfl) ?_
  obtain ⟨j1_2, hj1_2, h⟩ := jx_join (P := fun j1_2 : Int → Prop => ∀ (x1 : Int) (H : Heap) (locs : List Loc) (ls : Array Slot), j1_2 x1 → jR x1 → Hp G M s.heap H locs → lv_has ls 3 [(0, .ref (jD G a1)), (1, .int (jI a2))] → W p l e (rmm 2 42) s m args below meth c H locs 0 0 (MQ below (qZ G k) args s 0 0 (gA G)) (F0 m 10 ls [.int (jI x1)])) h (by
    intro x1 H locs ls h r_x1 B hl
    refine lv_istore_n (lv' := [(2, .int (jI x1)), (0, .ref (jD G a1)), (1, .int (jI a2))]) C.1 C.2.1 dL_digits_10 rfl hl (by decide) rfl (fun ls hl => ?_)
    refine lv_iload_n C.1 C.2.1 dL_digits_11 rfl (lv_at hl 2 rfl) ?_
    refine jr_if_ge (tgt := 24) C r_a2 h dL_digits_12 (by decide) (fun hc12 h => ?_) (fun hc12 h => ?_)
    · refine lv_aload_n C.1 C.2.1 dL_digits_15 rfl (lv_at hl 1 rfl) ?_
      refine jr_bipush C dL_digits_16 (by decide) ?_
      refine cl_X6_append C hl.1 B q_544 ⟨Nat.le_of_ble_eq_true rfl, Nat.le_of_ble_eq_true rfl⟩ ⟨Nat.zero_le _, Nat.zero_le _⟩ (Nat.le_of_ble_eq_true rfl) k_a1 (jkc rfl) h dL_digits_18 (fun x3 M4 r_x3 _ _ h B => ?_)
      have o_M4 := B.2.2
      refine jr_if_le (tgt := 88) C r_x3 h dL_digits_21 (by decide) (fun hc21 h => ?_) (fun hc21 h => ?_)
      · refine jr_iconst C dL_digits_88 ?_
        exact jr_zret C B hr hlocks (Or.inl rfl) h dL_digits_89
      · refine lv_iload_n C.1 C.2.1 dL_digits_24 rfl (lv_at hl 0 rfl) ?_
        refine jr_bipush C dL_digits_25 (by decide) ?_
        refine jr_icmp_lt (tgt := 47) C r_x1 (jkc rfl) h dL_digits_27 (by decide) (fun hc27 h => ?_) (fun hc27 h => ?_)
        · refine lv_iload_n C.1 C.2.1 dL_digits_47 rfl (lv_at hl 0 rfl) ?_
          refine jr_bipush C dL_digits_48 (by decide) ?_
          refine jr_icmp_lt (tgt := 70) C r_x1 (jkc rfl) h dL_digits_50 (by decide) (fun hc50 h => ?_) (fun hc50 h => ?_)
          · refine lv_aload_n C.1 C.2.1 dL_digits_70 rfl (lv_at hl 1 rfl) ?_
            refine jr_bipush C dL_digits_71 (by decide) ?_
            refine lv_iload_n C.1 C.2.1 dL_digits_73 rfl (lv_at hl 0 rfl) ?_
            refine jr_bipush C dL_digits_74 (by decide) ?_
            refine jr_irem C (by decide) dL_digits_76 ?_
            refine jr_iadd C dL_digits_77 ?_
            refine cl_X6_append C hl.1 B q_544 ⟨Nat.le_of_ble_eq_true rfl, Nat.le_of_ble_eq_true rfl⟩ ⟨Nat.zero_le _, Nat.zero_le _⟩ (Nat.le_of_ble_eq_true rfl) k_a1 (jW_R _) h dL_digits_78 (fun x5 M6 r_x5 _ _ h B => ?_)
            have o_M6 := B.2.2
            refine jr_if_le (tgt := 88) C r_x5 h dL_digits_81 (by decide) (fun hc81 h => ?_) (fun hc81 h => ?_)
            · refine jr_iconst C dL_digits_88 ?_
              exact jr_zret C B hr hlocks (Or.inl rfl) h dL_digits_89
            · refine jr_iconst C dL_digits_84 ?_
              refine lv_goto (tgt := 89) C.1 C.2.1 dL_digits_85 (by decide) ?_
              exact jr_zret C B hr hlocks (Or.inr rfl) h dL_digits_89
          · refine lv_aload_n C.1 C.2.1 dL_digits_53 rfl (lv_at hl 1 rfl) ?_
            refine jr_bipush C dL_digits_54 (by decide) ?_
            refine lv_iload_n C.1 C.2.1 dL_digits_56 rfl (lv_at hl 0 rfl) ?_
            refine jr_bipush C dL_digits_57 (by decide) ?_
            refine jr_idiv C (by decide) dL_digits_59 ?_
            refine jr_bipush C dL_digits_60 (by decide) ?_
            refine jr_irem C (by decide) dL_digits_62 ?_
            refine jr_iadd C dL_digits_63 ?_
            refine cl_X6_append C hl.1 B q_544 ⟨Nat.le_of_ble_eq_true rfl, Nat.le_of_ble_eq_true rfl⟩ ⟨Nat.zero_le _, Nat.zero_le _⟩ (Nat.le_of_ble_eq_true rfl) k_a1 (jW_R _) h dL_digits_64 (fun x7 M8 r_x7 _ _ h B => ?_)
            have o_M8 := B.2.2
            refine jr_if_le (tgt := 88) C r_x7 h dL_digits_67 (by decide) (fun hc67 h => ?_) (fun hc67 h => ?_)
            · refine jr_iconst C dL_digits_88 ?_
              exact jr_zret C B hr hlocks (Or.inl rfl) h dL_digits_89
            · refine lv_aload_n C.1 C.2.1 dL_digits_70 rfl (lv_at hl 1 rfl) ?_
              refine jr_bipush C dL_digits_71 (by decide) ?_
              refine lv_iload_n C.1 C.2.1 dL_digits_73 rfl (lv_at hl 0 rfl) ?_
              refine jr_bipush C dL_digits_74 (by decide) ?_
              refine jr_irem C (by decide) dL_digits_76 ?_
              refine jr_iadd C dL_digits_77 ?_
              refine cl_X6_append C hl.1 B q_544 ⟨Nat.le_of_ble_eq_true rfl, Nat.le_of_ble_eq_true rfl⟩ ⟨Nat.zero_le _, Nat.zero_le _⟩ (Nat.le_of_ble_eq_true rfl) k_a1 (jW_R _) h dL_digits_78 (fun x9 M10 r_x9 _ _ h B => ?_)
              have o_M10 := B.2.2
              refine jr_if_le (tgt := 88) C r_x9 h dL_digits_81 (by decide) (fun hc81 h => ?_) (fun hc81 h => ?_)
              · refine jr_iconst C dL_digits_88 ?_
                exact jr_zret C B hr hlocks (Or.inl rfl) h dL_digits_89
              · refine jr_iconst C dL_digits_84 ?_
                refine lv_goto (tgt := 89) C.1 C.2.1 dL_digits_85 (by decide) ?_
                exact jr_zret C B hr hlocks (Or.inr rfl) h dL_digits_89
        · refine lv_aload_n C.1 C.2.1 dL_digits_30 rfl (lv_at hl 1 rfl) ?_
          refine jr_bipush C dL_digits_31 (by decide) ?_
          refine lv_iload_n C.1 C.2.1 dL_digits_33 rfl (lv_at hl 0 rfl) ?_
          refine jr_bipush C dL_digits_34 (by decide) ?_
          refine jr_idiv C (by decide) dL_digits_36 ?_
          refine jr_bipush C dL_digits_37 (by decide) ?_
          refine jr_irem C (by decide) dL_digits_39 ?_
          refine jr_iadd C dL_digits_40 ?_
          refine cl_X6_append C hl.1 B q_544 ⟨Nat.le_of_ble_eq_true rfl, Nat.le_of_ble_eq_true rfl⟩ ⟨Nat.zero_le _, Nat.zero_le _⟩ (Nat.le_of_ble_eq_true rfl) k_a1 (jW_R _) h dL_digits_41 (fun x11 M12 r_x11 _ _ h B => ?_)
          have o_M12 := B.2.2
          refine jr_if_le (tgt := 88) C r_x11 h dL_digits_44 (by decide) (fun hc44 h => ?_) (fun hc44 h => ?_)
          · refine jr_iconst C dL_digits_88 ?_
            exact jr_zret C B hr hlocks (Or.inl rfl) h dL_digits_89
          · refine lv_iload_n C.1 C.2.1 dL_digits_47 rfl (lv_at hl 0 rfl) ?_
            refine jr_bipush C dL_digits_48 (by decide) ?_
            refine jr_icmp_lt (tgt := 70) C r_x1 (jkc rfl) h dL_digits_50 (by decide) (fun hc50 h => ?_) (fun hc50 h => ?_)
            · refine lv_aload_n C.1 C.2.1 dL_digits_70 rfl (lv_at hl 1 rfl) ?_
              refine jr_bipush C dL_digits_71 (by decide) ?_
              refine lv_iload_n C.1 C.2.1 dL_digits_73 rfl (lv_at hl 0 rfl) ?_
              refine jr_bipush C dL_digits_74 (by decide) ?_
              refine jr_irem C (by decide) dL_digits_76 ?_
              refine jr_iadd C dL_digits_77 ?_
              refine cl_X6_append C hl.1 B q_544 ⟨Nat.le_of_ble_eq_true rfl, Nat.le_of_ble_eq_true rfl⟩ ⟨Nat.zero_le _, Nat.zero_le _⟩ (Nat.le_of_ble_eq_true rfl) k_a1 (jW_R _) h dL_digits_78 (fun x13 M14 r_x13 _ _ h B => ?_)
              have o_M14 := B.2.2
              refine jr_if_le (tgt := 88) C r_x13 h dL_digits_81 (by decide) (fun hc81 h => ?_) (fun hc81 h => ?_)
              · refine jr_iconst C dL_digits_88 ?_
                exact jr_zret C B hr hlocks (Or.inl rfl) h dL_digits_89
              · refine jr_iconst C dL_digits_84 ?_
                refine lv_goto (tgt := 89) C.1 C.2.1 dL_digits_85 (by decide) ?_
                exact jr_zret C B hr hlocks (Or.inr rfl) h dL_digits_89
            · refine lv_aload_n C.1 C.2.1 dL_digits_53 rfl (lv_at hl 1 rfl) ?_
              refine jr_bipush C dL_digits_54 (by decide) ?_
              refine lv_iload_n C.1 C.2.1 dL_digits_56 rfl (lv_at hl 0 rfl) ?_
              refine jr_bipush C dL_digits_57 (by decide) ?_
              refine jr_idiv C (by decide) dL_digits_59 ?_
              refine jr_bipush C dL_digits_60 (by decide) ?_
              refine jr_irem C (by decide) dL_digits_62 ?_
              refine jr_iadd C dL_digits_63 ?_
              refine cl_X6_append C hl.1 B q_544 ⟨Nat.le_of_ble_eq_true rfl, Nat.le_of_ble_eq_true rfl⟩ ⟨Nat.zero_le _, Nat.zero_le _⟩ (Nat.le_of_ble_eq_true rfl) k_a1 (jW_R _) h dL_digits_64 (fun x15 M16 r_x15 _ _ h B => ?_)
              have o_M16 := B.2.2
              refine jr_if_le (tgt := 88) C r_x15 h dL_digits_67 (by decide) (fun hc67 h => ?_) (fun hc67 h => ?_)
              · refine jr_iconst C dL_digits_88 ?_
                exact jr_zret C B hr hlocks (Or.inl rfl) h dL_digits_89
              · refine lv_aload_n C.1 C.2.1 dL_digits_70 rfl (lv_at hl 1 rfl) ?_
                refine jr_bipush C dL_digits_71 (by decide) ?_
                refine lv_iload_n C.1 C.2.1 dL_digits_73 rfl (lv_at hl 0 rfl) ?_
                refine jr_bipush C dL_digits_74 (by decide) ?_
                refine jr_irem C (by decide) dL_digits_76 ?_
                refine jr_iadd C dL_digits_77 ?_
                refine cl_X6_append C hl.1 B q_544 ⟨Nat.le_of_ble_eq_true rfl, Nat.le_of_ble_eq_true rfl⟩ ⟨Nat.zero_le _, Nat.zero_le _⟩ (Nat.le_of_ble_eq_true rfl) k_a1 (jW_R _) h dL_digits_78 (fun x17 M18 r_x17 _ _ h B => ?_)
                have o_M18 := B.2.2
                refine jr_if_le (tgt := 88) C r_x17 h dL_digits_81 (by decide) (fun hc81 h => ?_) (fun hc81 h => ?_)
                · refine jr_iconst C dL_digits_88 ?_
                  exact jr_zret C B hr hlocks (Or.inl rfl) h dL_digits_89
                · refine jr_iconst C dL_digits_84 ?_
                  refine lv_goto (tgt := 89) C.1 C.2.1 dL_digits_85 (by decide) ?_
                  exact jr_zret C B hr hlocks (Or.inr rfl) h dL_digits_89
    · refine lv_iload_n C.1 C.2.1 dL_digits_24 rfl (lv_at hl 0 rfl) ?_
      refine jr_bipush C dL_digits_25 (by decide) ?_
      refine jr_icmp_lt (tgt := 47) C r_x1 (jkc rfl) h dL_digits_27 (by decide) (fun hc27 h => ?_) (fun hc27 h => ?_)
      · refine lv_iload_n C.1 C.2.1 dL_digits_47 rfl (lv_at hl 0 rfl) ?_
        refine jr_bipush C dL_digits_48 (by decide) ?_
        refine jr_icmp_lt (tgt := 70) C r_x1 (jkc rfl) h dL_digits_50 (by decide) (fun hc50 h => ?_) (fun hc50 h => ?_)
        · refine lv_aload_n C.1 C.2.1 dL_digits_70 rfl (lv_at hl 1 rfl) ?_
          refine jr_bipush C dL_digits_71 (by decide) ?_
          refine lv_iload_n C.1 C.2.1 dL_digits_73 rfl (lv_at hl 0 rfl) ?_
          refine jr_bipush C dL_digits_74 (by decide) ?_
          refine jr_irem C (by decide) dL_digits_76 ?_
          refine jr_iadd C dL_digits_77 ?_
          refine cl_X6_append C hl.1 B q_544 ⟨Nat.le_of_ble_eq_true rfl, Nat.le_of_ble_eq_true rfl⟩ ⟨Nat.zero_le _, Nat.zero_le _⟩ (Nat.le_of_ble_eq_true rfl) k_a1 (jW_R _) h dL_digits_78 (fun x19 M20 r_x19 _ _ h B => ?_)
          have o_M20 := B.2.2
          refine jr_if_le (tgt := 88) C r_x19 h dL_digits_81 (by decide) (fun hc81 h => ?_) (fun hc81 h => ?_)
          · refine jr_iconst C dL_digits_88 ?_
            exact jr_zret C B hr hlocks (Or.inl rfl) h dL_digits_89
          · refine jr_iconst C dL_digits_84 ?_
            refine lv_goto (tgt := 89) C.1 C.2.1 dL_digits_85 (by decide) ?_
            exact jr_zret C B hr hlocks (Or.inr rfl) h dL_digits_89
        · refine lv_aload_n C.1 C.2.1 dL_digits_53 rfl (lv_at hl 1 rfl) ?_
          refine jr_bipush C dL_digits_54 (by decide) ?_
          refine lv_iload_n C.1 C.2.1 dL_digits_56 rfl (lv_at hl 0 rfl) ?_
          refine jr_bipush C dL_digits_57 (by decide) ?_
          refine jr_idiv C (by decide) dL_digits_59 ?_
          refine jr_bipush C dL_digits_60 (by decide) ?_
          refine jr_irem C (by decide) dL_digits_62 ?_
          refine jr_iadd C dL_digits_63 ?_
          refine cl_X6_append C hl.1 B q_544 ⟨Nat.le_of_ble_eq_true rfl, Nat.le_of_ble_eq_true rfl⟩ ⟨Nat.zero_le _, Nat.zero_le _⟩ (Nat.le_of_ble_eq_true rfl) k_a1 (jW_R _) h dL_digits_64 (fun x21 M22 r_x21 _ _ h B => ?_)
          have o_M22 := B.2.2
          refine jr_if_le (tgt := 88) C r_x21 h dL_digits_67 (by decide) (fun hc67 h => ?_) (fun hc67 h => ?_)
          · refine jr_iconst C dL_digits_88 ?_
            exact jr_zret C B hr hlocks (Or.inl rfl) h dL_digits_89
          · refine lv_aload_n C.1 C.2.1 dL_digits_70 rfl (lv_at hl 1 rfl) ?_
            refine jr_bipush C dL_digits_71 (by decide) ?_
            refine lv_iload_n C.1 C.2.1 dL_digits_73 rfl (lv_at hl 0 rfl) ?_
            refine jr_bipush C dL_digits_74 (by decide) ?_
            refine jr_irem C (by decide) dL_digits_76 ?_
            refine jr_iadd C dL_digits_77 ?_
            refine cl_X6_append C hl.1 B q_544 ⟨Nat.le_of_ble_eq_true rfl, Nat.le_of_ble_eq_true rfl⟩ ⟨Nat.zero_le _, Nat.zero_le _⟩ (Nat.le_of_ble_eq_true rfl) k_a1 (jW_R _) h dL_digits_78 (fun x23 M24 r_x23 _ _ h B => ?_)
            have o_M24 := B.2.2
            refine jr_if_le (tgt := 88) C r_x23 h dL_digits_81 (by decide) (fun hc81 h => ?_) (fun hc81 h => ?_)
            · refine jr_iconst C dL_digits_88 ?_
              exact jr_zret C B hr hlocks (Or.inl rfl) h dL_digits_89
            · refine jr_iconst C dL_digits_84 ?_
              refine lv_goto (tgt := 89) C.1 C.2.1 dL_digits_85 (by decide) ?_
              exact jr_zret C B hr hlocks (Or.inr rfl) h dL_digits_89
      · refine lv_aload_n C.1 C.2.1 dL_digits_30 rfl (lv_at hl 1 rfl) ?_
        refine jr_bipush C dL_digits_31 (by decide) ?_
        refine lv_iload_n C.1 C.2.1 dL_digits_33 rfl (lv_at hl 0 rfl) ?_
        refine jr_bipush C dL_digits_34 (by decide) ?_
        refine jr_idiv C (by decide) dL_digits_36 ?_
        refine jr_bipush C dL_digits_37 (by decide) ?_
        refine jr_irem C (by decide) dL_digits_39 ?_
        refine jr_iadd C dL_digits_40 ?_
        refine cl_X6_append C hl.1 B q_544 ⟨Nat.le_of_ble_eq_true rfl, Nat.le_of_ble_eq_true rfl⟩ ⟨Nat.zero_le _, Nat.zero_le _⟩ (Nat.le_of_ble_eq_true rfl) k_a1 (jW_R _) h dL_digits_41 (fun x25 M26 r_x25 _ _ h B => ?_)
        have o_M26 := B.2.2
        refine jr_if_le (tgt := 88) C r_x25 h dL_digits_44 (by decide) (fun hc44 h => ?_) (fun hc44 h => ?_)
        · refine jr_iconst C dL_digits_88 ?_
          exact jr_zret C B hr hlocks (Or.inl rfl) h dL_digits_89
        · refine lv_iload_n C.1 C.2.1 dL_digits_47 rfl (lv_at hl 0 rfl) ?_
          refine jr_bipush C dL_digits_48 (by decide) ?_
          refine jr_icmp_lt (tgt := 70) C r_x1 (jkc rfl) h dL_digits_50 (by decide) (fun hc50 h => ?_) (fun hc50 h => ?_)
          · refine lv_aload_n C.1 C.2.1 dL_digits_70 rfl (lv_at hl 1 rfl) ?_
            refine jr_bipush C dL_digits_71 (by decide) ?_
            refine lv_iload_n C.1 C.2.1 dL_digits_73 rfl (lv_at hl 0 rfl) ?_
            refine jr_bipush C dL_digits_74 (by decide) ?_
            refine jr_irem C (by decide) dL_digits_76 ?_
            refine jr_iadd C dL_digits_77 ?_
            refine cl_X6_append C hl.1 B q_544 ⟨Nat.le_of_ble_eq_true rfl, Nat.le_of_ble_eq_true rfl⟩ ⟨Nat.zero_le _, Nat.zero_le _⟩ (Nat.le_of_ble_eq_true rfl) k_a1 (jW_R _) h dL_digits_78 (fun x27 M28 r_x27 _ _ h B => ?_)
            have o_M28 := B.2.2
            refine jr_if_le (tgt := 88) C r_x27 h dL_digits_81 (by decide) (fun hc81 h => ?_) (fun hc81 h => ?_)
            · refine jr_iconst C dL_digits_88 ?_
              exact jr_zret C B hr hlocks (Or.inl rfl) h dL_digits_89
            · refine jr_iconst C dL_digits_84 ?_
              refine lv_goto (tgt := 89) C.1 C.2.1 dL_digits_85 (by decide) ?_
              exact jr_zret C B hr hlocks (Or.inr rfl) h dL_digits_89
          · refine lv_aload_n C.1 C.2.1 dL_digits_53 rfl (lv_at hl 1 rfl) ?_
            refine jr_bipush C dL_digits_54 (by decide) ?_
            refine lv_iload_n C.1 C.2.1 dL_digits_56 rfl (lv_at hl 0 rfl) ?_
            refine jr_bipush C dL_digits_57 (by decide) ?_
            refine jr_idiv C (by decide) dL_digits_59 ?_
            refine jr_bipush C dL_digits_60 (by decide) ?_
            refine jr_irem C (by decide) dL_digits_62 ?_
            refine jr_iadd C dL_digits_63 ?_
            refine cl_X6_append C hl.1 B q_544 ⟨Nat.le_of_ble_eq_true rfl, Nat.le_of_ble_eq_true rfl⟩ ⟨Nat.zero_le _, Nat.zero_le _⟩ (Nat.le_of_ble_eq_true rfl) k_a1 (jW_R _) h dL_digits_64 (fun x29 M30 r_x29 _ _ h B => ?_)
            have o_M30 := B.2.2
            refine jr_if_le (tgt := 88) C r_x29 h dL_digits_67 (by decide) (fun hc67 h => ?_) (fun hc67 h => ?_)
            · refine jr_iconst C dL_digits_88 ?_
              exact jr_zret C B hr hlocks (Or.inl rfl) h dL_digits_89
            · refine lv_aload_n C.1 C.2.1 dL_digits_70 rfl (lv_at hl 1 rfl) ?_
              refine jr_bipush C dL_digits_71 (by decide) ?_
              refine lv_iload_n C.1 C.2.1 dL_digits_73 rfl (lv_at hl 0 rfl) ?_
              refine jr_bipush C dL_digits_74 (by decide) ?_
              refine jr_irem C (by decide) dL_digits_76 ?_
              refine jr_iadd C dL_digits_77 ?_
              refine cl_X6_append C hl.1 B q_544 ⟨Nat.le_of_ble_eq_true rfl, Nat.le_of_ble_eq_true rfl⟩ ⟨Nat.zero_le _, Nat.zero_le _⟩ (Nat.le_of_ble_eq_true rfl) k_a1 (jW_R _) h dL_digits_78 (fun x31 M32 r_x31 _ _ h B => ?_)
              have o_M32 := B.2.2
              refine jr_if_le (tgt := 88) C r_x31 h dL_digits_81 (by decide) (fun hc81 h => ?_) (fun hc81 h => ?_)
              · refine jr_iconst C dL_digits_88 ?_
                exact jr_zret C B hr hlocks (Or.inl rfl) h dL_digits_89
              · refine jr_iconst C dL_digits_84 ?_
                refine lv_goto (tgt := 89) C.1 C.2.1 dL_digits_85 (by decide) ?_
                exact jr_zret C B hr hlocks (Or.inr rfl) h dL_digits_89)
  refine jr_if_ge (tgt := 9) C r_a2 h dL_digits_1 (by decide) (fun hc1 h => ?_) (fun hc1 h => ?_)
  · refine lv_iload_n C.1 C.2.1 dL_digits_4 rfl (lv_at hl 1 rfl) ?_
    refine jr_ineg C dL_digits_5 ?_
    refine lv_goto (tgt := 10) C.1 C.2.1 dL_digits_6 (by decide) ?_
    exact hj1_2 _ _ _ _ h (jW_R _) B (lv_sub hl [0, 1] rfl)
  · refine lv_iload_n C.1 C.2.1 dL_digits_9 rfl (lv_at hl 1 rfl) ?_
    exact hj1_2 _ _ _ _ h r_a2 B (lv_sub hl [0, 1] rfl)
theorem cl_L_digits {p : Program} {l : Launch} {e : Env} {R : Room} {s : State} {m : MethodId} {args : Array Value} {below : List Frame} {meth : Method} {c : Code} {H : Heap} {locs : List Loc} {cells slots : Nat} {Q : State → Prop} {cc : ByteArray} {nL : Nat} {own : String} {G : jG} {H0 : Heap} {pc idx : Nat} {ls : Array Slot} {rest : List Value} {M : jM} {a1 a2 : Int} {k : Int → jM → Prop} (C : Cx G p s args m c cc nL own) (hl : ls.size = nL) (B : Hp G M H0 H locs) (q1 : Cond.methodLink own idx yL_digits ∈ tb) (hR : (rmm 2 42).frames + 1 ≤ R.frames ∧ 8 + (3 + 11) + (rmm 2 42).locals ≤ R.locals) (hcs : cells ≤ R.cells ∧ slots ≤ R.slots) (hW : (rest.map fun v => v.category).sum ≤ 8) (k_a1 : jK a1 = 7) (r_a2 : jR a2) (h : w_L_digits M a1 a2 k) (hdg : decode cc pc = .ok (.invokestatic idx, 3)) (kk : ∀ (r : Int) (M' : jM), (r = 0 ∨ r = 1) → ∀ (H1 : Heap) (locs1 : List Loc), k r M' → Hp G M' H0 H1 locs1 → W p l e R s m args below meth c H1 locs1 cells slots Q (F0 m (pc + 3) ls (.int (jI r) :: rest))) : W p l e R s m args below meth c H locs cells slots Q (F0 m pc ls (.int (jI a2) :: .ref (jD G a1) :: rest)) :=
  jr_callZ B (jr_runS (As := [.ref (jD G a1), .int (jI a2)]) (n := 2) C hl B (m_L_digits B.2.2 k_a1 r_a2 h) q1 q_553 q_554 q_0 ⟨by decide, by decide, by decide +kernel⟩ rfl ⟨rfl, rfl⟩ hR hcs rfl hW hdg) (fun r M' H1 locs1 hr hk B1 => kk r M' hr H1 locs1 hk B1)
