def lp_X7_takesValue_6 (N : Nat) (o : Int) (a1 : Int) (a2 : Int) (a3 : Int) (kx6 : Int → jM → Prop) : Nat → Int → Int → jM → Prop
  | 0, _, _, _ => False
  | n + 1, x1, x2, M3 => (if x2 = 0 then (kx6 x1 M3) else (w_X7_takesNumber N M3 o (fun x8 M9 => (jL (fun (M11 : jM) => (jL (jW (x1 + 1)) (fun x12 => (if (M11 o 9) = 0 then (if (0 : Int) = 0 then (jL (jU M11 o 8 (jW ((M11 o 8) + 0))) (fun M13 => (lp_X7_takesValue_6 N o a1 a2 a3 kx6 n x12 0 M13))) else (jL (jU M11 o 8 (jW ((M11 o 8) + 1))) (fun M14 => (lp_X7_takesValue_6 N o a1 a2 a3 kx6 n x12 0 M14)))) else (if x12 < 4 then (w_X7_here M11 o (fun x15 => (if x15 = 47 then (if (1 : Int) = 0 then (jL (jU M11 o 8 (jW ((M11 o 8) + 0))) (fun M16 => (lp_X7_takesValue_6 N o a1 a2 a3 kx6 n x12 1 M16))) else (jL (jU M11 o 8 (jW ((M11 o 8) + 1))) (fun M17 => (lp_X7_takesValue_6 N o a1 a2 a3 kx6 n x12 1 M17)))) else (if (0 : Int) = 0 then (jL (jU M11 o 8 (jW ((M11 o 8) + 0))) (fun M18 => (lp_X7_takesValue_6 N o a1 a2 a3 kx6 n x12 0 M18))) else (jL (jU M11 o 8 (jW ((M11 o 8) + 1))) (fun M19 => (lp_X7_takesValue_6 N o a1 a2 a3 kx6 n x12 0 M19))))))) else (if (0 : Int) = 0 then (jL (jU M11 o 8 (jW ((M11 o 8) + 0))) (fun M20 => (lp_X7_takesValue_6 N o a1 a2 a3 kx6 n x12 0 M20))) else (jL (jU M11 o 8 (jW ((M11 o 8) + 1))) (fun M21 => (lp_X7_takesValue_6 N o a1 a2 a3 kx6 n x12 0 M21))))))))) (fun j18_10 => (if a1 < 0 then (j18_10 M9) else (w_X7_numberAtCell a2 a3 x1 (fun x22 => (w_X7_lays M9 o a1 x22 x8 (fun M23 => (j18_10 M23)))))))))))
def w_X7_takesValue (N : Nat) (M : jM) (o : Int) (a1 : Int) (a2 : Int) (a3 : Int) (k : jM → Prop) : Prop := (lp_X7_takesValue_6 N o a1 a2 a3 (fun (x4 : Int) (M5 : jM) => (if a1 < 0 then (k M5) else (w_X7_subsAt a2 a3 (fun x6 => (w_X7_lays M5 o a1 x6 x4 (fun M7 => (k M7))))))) N 0 1 M)
set_option maxHeartbeats 4000000 in
set_option maxRecDepth 100000 in
theorem m_X7_takesValue {l : Launch} {G : jG} {N : Nat} {M : jM} {o a1 a2 a3 : Int} {k : jM → Prop} (o_M : jOK M) (k_o : jK o = 8) (r_a1 : jR a1) (r_a2 : jR a2) (r_a3 : jR a3) (h : w_X7_takesValue N M o a1 a2 a3 k) : Met l yX7_takesValue (wsG yX7_takesValue cX7_takesValue 7 none) (rmm 2 44) (jPc G M [.ref (jD G o), .int (jI a1), .int (jI a2), .int (jI a3)]) (qV G k) 0 0 (gA G) := by
  refine jm_start RX7 rfl (by decide) (Nat.le_of_ble_eq_true rfl) o_M ?_
  intro p e s m args below meth c ls C hr hlocks hl B
  have hl : lv_has ls 7 [(0, .ref (jD G o)), (1, .int (jI a1)), (2, .int (jI a2)), (3, .int (jI a3))] := hl
  unfold w_X7_takesValue at h
  refine jr_iconst C dX7_takesValue_0 ?_
  refine lv_istore (lv' := [(4, .int (jI 0)), (0, .ref (jD G o)), (1, .int (jI a1)), (2, .int (jI a2)), (3, .int (jI a3))]) C.1 C.2.1 dX7_takesValue_1 hl (by decide) rfl (fun ls hl => ?_)
  refine jr_iconst C dX7_takesValue_3 ?_
  refine lv_istore (lv' := [(5, .int (jI 1)), (4, .int (jI 0)), (0, .ref (jD G o)), (1, .int (jI a1)), (2, .int (jI a2)), (3, .int (jI a3))]) C.1 C.2.1 dX7_takesValue_4 hl (by decide) rfl (fun ls hl => ?_)
  obtain ⟨kx6, hkx6, h⟩ : ∃ kx6 : Int → jM → Prop, (∀ (x4 : Int) (M5 : jM) (H : Heap) (locs : List Loc) (ls : Array Slot), kx6 x4 M5 → jR x4 → Hp G M5 s.heap H locs → lv_has ls 7 [(4, .int (jI x4)), (0, .ref (jD G o)), (1, .int (jI a1)), (2, .int (jI a2)), (3, .int (jI a3))] → W p l e (rmm 2 44) s m args below meth c H locs 0 0 (MQ below (qV G k) args s 0 0 (gA G)) (F0 m 89 ls [])) ∧ lp_X7_takesValue_6 N o a1 a2 a3 kx6 N 0 1 M := by
    refine ⟨_, ?_, h⟩
    intro x4 M5 H locs ls h r_x4 B hl
    have o_M5 := B.2.2
    refine lv_iload_n C.1 C.2.1 dX7_takesValue_89 rfl (lv_at hl 2 rfl) ?_
    refine jr_if_lt (tgt := 105) C r_a1 h dX7_takesValue_90 (by decide) (fun hc90 h => ?_) (fun hc90 h => ?_)
    · exact jr_vret C B hr hlocks h dX7_takesValue_105
    · refine lv_aload_n C.1 C.2.1 dX7_takesValue_93 rfl (lv_at hl 1 rfl) ?_
      refine lv_iload_n C.1 C.2.1 dX7_takesValue_94 rfl (lv_at hl 2 rfl) ?_
      refine lv_iload_n C.1 C.2.1 dX7_takesValue_95 rfl (lv_at hl 3 rfl) ?_
      refine lv_iload_n C.1 C.2.1 dX7_takesValue_96 rfl (lv_at hl 4 rfl) ?_
      refine cl_X7_subsAt C hl.1 B q_827 ⟨Nat.le_of_ble_eq_true rfl, Nat.le_of_ble_eq_true rfl⟩ ⟨Nat.zero_le _, Nat.zero_le _⟩ (Nat.le_of_ble_eq_true rfl) r_a2 r_a3 h dX7_takesValue_97 (fun x6 r_x6 _ _ h B => ?_)
      refine lv_iload C.1 C.2.1 dX7_takesValue_100 (lv_at hl 0 rfl) ?_
      refine cl_X7_lays C hl.1 B q_760 ⟨Nat.le_of_ble_eq_true rfl, Nat.le_of_ble_eq_true rfl⟩ ⟨Nat.zero_le _, Nat.zero_le _⟩ (Nat.le_of_ble_eq_true rfl) k_o r_a1 r_x6 r_x4 h dX7_takesValue_102 (fun M7 _ _ h B => ?_)
      have o_M7 := B.2.2
      exact jr_vret C B hr hlocks h dX7_takesValue_105
  have hL6 : ∀ (n : Nat) (x1 : Int) (x2 : Int) (M3 : jM) (H : Heap) (locs : List Loc) (ls : Array Slot), lp_X7_takesValue_6 N o a1 a2 a3 kx6 n x1 x2 M3 → jR x1 → (x2 = 0 ∨ x2 = 1) → Hp G M3 s.heap H locs → lv_has ls 7 [(4, .int (jI x1)), (5, .int (jI x2)), (0, .ref (jD G o)), (1, .int (jI a1)), (2, .int (jI a2)), (3, .int (jI a3))] → W p l e (rmm 2 44) s m args below meth c H locs 0 0 (MQ below (qV G k) args s 0 0 (gA G)) (F0 m 6 ls []) := by
    intro n
    induction n with
    | zero => intro x1 x2 M3 H locs ls h; exact (show False from h).elim
    | succ n ih6 =>
      intro x1 x2 M3 H locs ls h r_x1 z_x2 B hl
      have o_M3 := B.2.2
      rw [lp_X7_takesValue_6] at h
      refine lv_iload C.1 C.2.1 dX7_takesValue_6 (lv_at hl 1 rfl) ?_
      refine jr_if_eq (tgt := 89) C (zR z_x2) h dX7_takesValue_8 (by decide) (fun hc8 h => ?_) (fun hc8 h => ?_)
      · exact hkx6 _ _ _ _ _ h r_x1 B (lv_sub hl [0, 2, 3, 4, 5] rfl)
      · refine lv_aload_n C.1 C.2.1 dX7_takesValue_11 rfl (lv_at hl 2 rfl) ?_
        refine cl_X7_takesNumber C hl.1 B q_913 ⟨Nat.le_of_ble_eq_true rfl, Nat.le_of_ble_eq_true rfl⟩ ⟨Nat.zero_le _, Nat.zero_le _⟩ (Nat.le_of_ble_eq_true rfl) k_o h dX7_takesValue_12 (fun x8 M9 r_x8 _ _ h B => ?_)
        have o_M9 := B.2.2
        refine lv_istore (lv' := [(6, .int (jI x8)), (4, .int (jI x1)), (5, .int (jI x2)), (0, .ref (jD G o)), (1, .int (jI a1)), (2, .int (jI a2)), (3, .int (jI a3))]) C.1 C.2.1 dX7_takesValue_15 hl (by decide) rfl (fun ls hl => ?_)
        refine lv_iload_n C.1 C.2.1 dX7_takesValue_17 rfl (lv_at hl 4 rfl) ?_
        obtain ⟨j18_10, hj18_10, h⟩ := jx_join (P := fun j18_10 : jM → Prop => ∀ (M11 : jM) (H : Heap) (locs : List Loc) (ls : Array Slot), j18_10 M11 → Hp G M11 s.heap H locs → lv_has ls 7 [(4, .int (jI x1)), (0, .ref (jD G o)), (1, .int (jI a1)), (2, .int (jI a2)), (3, .int (jI a3))] → W p l e (rmm 2 44) s m args below meth c H locs 0 0 (MQ below (qV G k) args s 0 0 (gA G)) (F0 m 35 ls [])) h (by
          intro M11 H locs ls h  B hl
          have o_M11 := B.2.2
          refine jr_iinc (k := 0) (lv' := fun x12 => [(4, .int (jI x12)), (0, .ref (jD G o)), (1, .int (jI a1)), (2, .int (jI a2)), (3, .int (jI a3))]) C h hl rfl (by decide) (fun _ => rfl) dX7_takesValue_35 (fun x12 h r_x12 ls hl => ?_)
          refine lv_aload_n C.1 C.2.1 dX7_takesValue_38 rfl (lv_at hl 1 rfl) ?_
          refine gf_X7_154 C B k_o dX7_takesValue_39 ?_
          refine jr_if_eq (tgt := 64) C (zR (jz_X7_9 o_M11 k_o)) h dX7_takesValue_42 (by decide) (fun hc42 h => ?_) (fun hc42 h => ?_)
          · refine jr_iconst C dX7_takesValue_64 ?_
            refine lv_istore (lv' := [(5, .int (jI 0)), (4, .int (jI x12)), (0, .ref (jD G o)), (1, .int (jI a1)), (2, .int (jI a2)), (3, .int (jI a3))]) C.1 C.2.1 dX7_takesValue_65 hl (by decide) rfl (fun ls hl => ?_)
            refine lv_aload_n C.1 C.2.1 dX7_takesValue_67 rfl (lv_at hl 2 rfl) ?_
            refine lv_dup C.1 C.2.1 dX7_takesValue_68 rfl ?_
            refine gf_X7_151 C B k_o dX7_takesValue_69 ?_
            refine lv_iload C.1 C.2.1 dX7_takesValue_72 (lv_at hl 0 rfl) ?_
            refine jr_if_eq (tgt := 81) C (jkc rfl) h dX7_takesValue_74 (by decide) (fun hc74 h => ?_) (fun hc74 h => ?_)
            · refine jr_iconst C dX7_takesValue_81 ?_
              refine jr_iadd C dX7_takesValue_82 ?_
              refine pf_X7_151 C B k_o (jW_R _) h dX7_takesValue_83 (fun M13 _ _ h B => ?_)
              have o_M13 := B.2.2
              refine lv_goto (tgt := 6) C.1 C.2.1 dX7_takesValue_86 (by decide) ?_
              exact ih6 _ _ _ _ _ _ h r_x12 (Or.inl rfl) B (lv_sub hl [1, 0, 2, 3, 4, 5] rfl)
            · refine jr_iconst C dX7_takesValue_77 ?_
              refine lv_goto (tgt := 82) C.1 C.2.1 dX7_takesValue_78 (by decide) ?_
              refine jr_iadd C dX7_takesValue_82 ?_
              refine pf_X7_151 C B k_o (jW_R _) h dX7_takesValue_83 (fun M14 _ _ h B => ?_)
              have o_M14 := B.2.2
              refine lv_goto (tgt := 6) C.1 C.2.1 dX7_takesValue_86 (by decide) ?_
              exact ih6 _ _ _ _ _ _ h r_x12 (Or.inl rfl) B (lv_sub hl [1, 0, 2, 3, 4, 5] rfl)
          · refine lv_iload C.1 C.2.1 dX7_takesValue_45 (lv_at hl 0 rfl) ?_
            refine jr_iconst C dX7_takesValue_47 ?_
            refine jr_icmp_ge (tgt := 64) C r_x12 (jkc rfl) h dX7_takesValue_48 (by decide) (fun hc48 h => ?_) (fun hc48 h => ?_)
            · refine lv_aload_n C.1 C.2.1 dX7_takesValue_51 rfl (lv_at hl 1 rfl) ?_
              refine cl_X7_here C hl.1 B q_897 ⟨Nat.le_of_ble_eq_true rfl, Nat.le_of_ble_eq_true rfl⟩ ⟨Nat.zero_le _, Nat.zero_le _⟩ (Nat.le_of_ble_eq_true rfl) k_o h dX7_takesValue_52 (fun x15 r_x15 _ _ h B => ?_)
              refine jr_bipush C dX7_takesValue_55 (by decide) ?_
              refine jr_icmp_ne (tgt := 64) C r_x15 (jkc rfl) h dX7_takesValue_57 (by decide) (fun hc57 h => ?_) (fun hc57 h => ?_)
              · refine jr_iconst C dX7_takesValue_60 ?_
                refine lv_goto (tgt := 65) C.1 C.2.1 dX7_takesValue_61 (by decide) ?_
                refine lv_istore (lv' := [(5, .int (jI 1)), (4, .int (jI x12)), (0, .ref (jD G o)), (1, .int (jI a1)), (2, .int (jI a2)), (3, .int (jI a3))]) C.1 C.2.1 dX7_takesValue_65 hl (by decide) rfl (fun ls hl => ?_)
                refine lv_aload_n C.1 C.2.1 dX7_takesValue_67 rfl (lv_at hl 2 rfl) ?_
                refine lv_dup C.1 C.2.1 dX7_takesValue_68 rfl ?_
                refine gf_X7_151 C B k_o dX7_takesValue_69 ?_
                refine lv_iload C.1 C.2.1 dX7_takesValue_72 (lv_at hl 0 rfl) ?_
                refine jr_if_eq (tgt := 81) C (jkc rfl) h dX7_takesValue_74 (by decide) (fun hc74 h => ?_) (fun hc74 h => ?_)
                · refine jr_iconst C dX7_takesValue_81 ?_
                  refine jr_iadd C dX7_takesValue_82 ?_
                  refine pf_X7_151 C B k_o (jW_R _) h dX7_takesValue_83 (fun M16 _ _ h B => ?_)
                  have o_M16 := B.2.2
                  refine lv_goto (tgt := 6) C.1 C.2.1 dX7_takesValue_86 (by decide) ?_
                  exact ih6 _ _ _ _ _ _ h r_x12 (Or.inr rfl) B (lv_sub hl [1, 0, 2, 3, 4, 5] rfl)
                · refine jr_iconst C dX7_takesValue_77 ?_
                  refine lv_goto (tgt := 82) C.1 C.2.1 dX7_takesValue_78 (by decide) ?_
                  refine jr_iadd C dX7_takesValue_82 ?_
                  refine pf_X7_151 C B k_o (jW_R _) h dX7_takesValue_83 (fun M17 _ _ h B => ?_)
                  have o_M17 := B.2.2
                  refine lv_goto (tgt := 6) C.1 C.2.1 dX7_takesValue_86 (by decide) ?_
                  exact ih6 _ _ _ _ _ _ h r_x12 (Or.inr rfl) B (lv_sub hl [1, 0, 2, 3, 4, 5] rfl)
              · refine jr_iconst C dX7_takesValue_64 ?_
                refine lv_istore (lv' := [(5, .int (jI 0)), (4, .int (jI x12)), (0, .ref (jD G o)), (1, .int (jI a1)), (2, .int (jI a2)), (3, .int (jI a3))]) C.1 C.2.1 dX7_takesValue_65 hl (by decide) rfl (fun ls hl => ?_)
                refine lv_aload_n C.1 C.2.1 dX7_takesValue_67 rfl (lv_at hl 2 rfl) ?_
                refine lv_dup C.1 C.2.1 dX7_takesValue_68 rfl ?_
                refine gf_X7_151 C B k_o dX7_takesValue_69 ?_
                refine lv_iload C.1 C.2.1 dX7_takesValue_72 (lv_at hl 0 rfl) ?_
                refine jr_if_eq (tgt := 81) C (jkc rfl) h dX7_takesValue_74 (by decide) (fun hc74 h => ?_) (fun hc74 h => ?_)
                · refine jr_iconst C dX7_takesValue_81 ?_
                  refine jr_iadd C dX7_takesValue_82 ?_
                  refine pf_X7_151 C B k_o (jW_R _) h dX7_takesValue_83 (fun M18 _ _ h B => ?_)
                  have o_M18 := B.2.2
                  refine lv_goto (tgt := 6) C.1 C.2.1 dX7_takesValue_86 (by decide) ?_
                  exact ih6 _ _ _ _ _ _ h r_x12 (Or.inl rfl) B (lv_sub hl [1, 0, 2, 3, 4, 5] rfl)
                · refine jr_iconst C dX7_takesValue_77 ?_
                  refine lv_goto (tgt := 82) C.1 C.2.1 dX7_takesValue_78 (by decide) ?_
                  refine jr_iadd C dX7_takesValue_82 ?_
                  refine pf_X7_151 C B k_o (jW_R _) h dX7_takesValue_83 (fun M19 _ _ h B => ?_)
                  have o_M19 := B.2.2
                  refine lv_goto (tgt := 6) C.1 C.2.1 dX7_takesValue_86 (by decide) ?_
                  exact ih6 _ _ _ _ _ _ h r_x12 (Or.inl rfl) B (lv_sub hl [1, 0, 2, 3, 4, 5] rfl)
            · refine jr_iconst C dX7_takesValue_64 ?_
              refine lv_istore (lv' := [(5, .int (jI 0)), (4, .int (jI x12)), (0, .ref (jD G o)), (1, .int (jI a1)), (2, .int (jI a2)), (3, .int (jI a3))]) C.1 C.2.1 dX7_takesValue_65 hl (by decide) rfl (fun ls hl => ?_)
              refine lv_aload_n C.1 C.2.1 dX7_takesValue_67 rfl (lv_at hl 2 rfl) ?_
              refine lv_dup C.1 C.2.1 dX7_takesValue_68 rfl ?_
              refine gf_X7_151 C B k_o dX7_takesValue_69 ?_
              refine lv_iload C.1 C.2.1 dX7_takesValue_72 (lv_at hl 0 rfl) ?_
              refine jr_if_eq (tgt := 81) C (jkc rfl) h dX7_takesValue_74 (by decide) (fun hc74 h => ?_) (fun hc74 h => ?_)
              · refine jr_iconst C dX7_takesValue_81 ?_
                refine jr_iadd C dX7_takesValue_82 ?_
                refine pf_X7_151 C B k_o (jW_R _) h dX7_takesValue_83 (fun M20 _ _ h B => ?_)
                have o_M20 := B.2.2
                refine lv_goto (tgt := 6) C.1 C.2.1 dX7_takesValue_86 (by decide) ?_
                exact ih6 _ _ _ _ _ _ h r_x12 (Or.inl rfl) B (lv_sub hl [1, 0, 2, 3, 4, 5] rfl)
              · refine jr_iconst C dX7_takesValue_77 ?_
                refine lv_goto (tgt := 82) C.1 C.2.1 dX7_takesValue_78 (by decide) ?_
                refine jr_iadd C dX7_takesValue_82 ?_
                refine pf_X7_151 C B k_o (jW_R _) h dX7_takesValue_83 (fun M21 _ _ h B => ?_)
                have o_M21 := B.2.2
                refine lv_goto (tgt := 6) C.1 C.2.1 dX7_takesValue_86 (by decide) ?_
                exact ih6 _ _ _ _ _ _ h r_x12 (Or.inl rfl) B (lv_sub hl [1, 0, 2, 3, 4, 5] rfl))
        refine jr_if_lt (tgt := 35) C r_a1 h dX7_takesValue_18 (by decide) (fun hc18 h => ?_) (fun hc18 h => ?_)
        · exact hj18_10 _ _ _ _ h  B (lv_sub hl [1, 3, 4, 5, 6] rfl)
        · refine lv_aload_n C.1 C.2.1 dX7_takesValue_21 rfl (lv_at hl 3 rfl) ?_
          refine lv_iload_n C.1 C.2.1 dX7_takesValue_22 rfl (lv_at hl 4 rfl) ?_
          refine lv_iload_n C.1 C.2.1 dX7_takesValue_23 rfl (lv_at hl 5 rfl) ?_
          refine lv_iload_n C.1 C.2.1 dX7_takesValue_24 rfl (lv_at hl 6 rfl) ?_
          refine lv_iload C.1 C.2.1 dX7_takesValue_25 (lv_at hl 1 rfl) ?_
          refine cl_X7_numberAtCell C hl.1 B q_841 ⟨Nat.le_of_ble_eq_true rfl, Nat.le_of_ble_eq_true rfl⟩ ⟨Nat.zero_le _, Nat.zero_le _⟩ (Nat.le_of_ble_eq_true rfl) r_a2 r_a3 r_x1 h dX7_takesValue_27 (fun x22 r_x22 _ _ h B => ?_)
          refine lv_iload C.1 C.2.1 dX7_takesValue_30 (lv_at hl 0 rfl) ?_
          refine cl_X7_lays C hl.1 B q_760 ⟨Nat.le_of_ble_eq_true rfl, Nat.le_of_ble_eq_true rfl⟩ ⟨Nat.zero_le _, Nat.zero_le _⟩ (Nat.le_of_ble_eq_true rfl) k_o r_a1 r_x22 r_x8 h dX7_takesValue_32 (fun M23 _ _ h B => ?_)
          have o_M23 := B.2.2
          exact hj18_10 _ _ _ _ h  B (lv_sub hl [1, 3, 4, 5, 6] rfl)
  exact hL6 N _ _ _ _ _ _ h (jkc rfl) (Or.inr rfl) B (lv_sub hl [1, 0, 2, 3, 4, 5] rfl)
theorem cl_X7_takesValue {p : Program} {l : Launch} {e : Env} {R : Room} {s : State} {m : MethodId} {args : Array Value} {below : List Frame} {meth : Method} {c : Code} {H : Heap} {locs : List Loc} {cells slots : Nat} {Q : State → Prop} {cc : ByteArray} {nL : Nat} {own : String} {G : jG} {H0 : Heap} {pc idx : Nat} {ls : Array Slot} {rest : List Value} {N : Nat} {M : jM} {o a1 a2 a3 : Int} {k : jM → Prop} (C : Cx G p s args m c cc nL own) (hl : ls.size = nL) (B : Hp G M H0 H locs) (q1 : Cond.methodLink own idx yX7_takesValue ∈ tb) (hR : (rmm 2 44).frames + 1 ≤ R.frames ∧ 8 + (7 + 11) + (rmm 2 44).locals ≤ R.locals) (hcs : cells ≤ R.cells ∧ slots ≤ R.slots) (hW : (rest.map fun v => v.category).sum ≤ 8) (k_o : jK o = 8) (r_a1 : jR a1) (r_a2 : jR a2) (r_a3 : jR a3) (h : w_X7_takesValue N M o a1 a2 a3 k) (hdg : decode cc pc = .ok (.invokevirtual idx, 3)) (kk : ∀ (M' : jM) (H1 : Heap) (locs1 : List Loc), k M' → Hp G M' H0 H1 locs1 → W p l e R s m args below meth c H1 locs1 cells slots Q (F0 m (pc + 3) ls rest)) : W p l e R s m args below meth c H locs cells slots Q (F0 m pc ls (.int (jI a3) :: .int (jI a2) :: .int (jI a1) :: .ref (jD G o) :: rest)) :=
  jr_callV B (jr_runV (o := o) (As := [.int (jI a1), .int (jI a2), .int (jI a3)]) (n := 3) C hl B (m_X7_takesValue B.2.2 k_o r_a1 r_a2 r_a3 h) (jE8 k_o) (by omega) rfl q1 q_911 qs_50 q_912 q_8 ⟨by decide, by decide, by decide +kernel⟩ rfl ⟨rfl, rfl⟩ hR hcs rfl hW hdg) (fun M' H1 locs1 hk B1 => kk M' H1 locs1 hk B1)
def lp_X7_takesField_29 (N : Nat) (o : Int) (a1 : Int) (a2 : Int) (kx29 : Int → jM → Prop) : Nat → Int → Int → jM → Prop
  | 0, _, _, _ => False
  | n + 1, x4, x5, M6 => (if x5 = 0 then (kx29 x4 M6) else (w_X7_takesValue N M6 o a1 a2 x4 (fun M10 => (jL (jW (x4 + 1)) (fun x11 => (if (M10 o 9) = 0 then (if (0 : Int) = 0 then (jL (jU M10 o 8 (jW ((M10 o 8) + 0))) (fun M12 => (lp_X7_takesField_29 N o a1 a2 kx29 n x11 0 M12))) else (jL (jU M10 o 8 (jW ((M10 o 8) + 1))) (fun M13 => (lp_X7_takesField_29 N o a1 a2 kx29 n x11 0 M13)))) else (if x11 < 5 then (w_X7_here M10 o (fun x14 => (if x14 = 93 then (if (1 : Int) = 0 then (jL (jU M10 o 8 (jW ((M10 o 8) + 0))) (fun M15 => (lp_X7_takesField_29 N o a1 a2 kx29 n x11 1 M15))) else (jL (jU M10 o 8 (jW ((M10 o 8) + 1))) (fun M16 => (lp_X7_takesField_29 N o a1 a2 kx29 n x11 1 M16)))) else (if (0 : Int) = 0 then (jL (jU M10 o 8 (jW ((M10 o 8) + 0))) (fun M17 => (lp_X7_takesField_29 N o a1 a2 kx29 n x11 0 M17))) else (jL (jU M10 o 8 (jW ((M10 o 8) + 1))) (fun M18 => (lp_X7_takesField_29 N o a1 a2 kx29 n x11 0 M18))))))) else (if (0 : Int) = 0 then (jL (jU M10 o 8 (jW ((M10 o 8) + 0))) (fun M19 => (lp_X7_takesField_29 N o a1 a2 kx29 n x11 0 M19))) else (jL (jU M10 o 8 (jW ((M10 o 8) + 1))) (fun M20 => (lp_X7_takesField_29 N o a1 a2 kx29 n x11 0 M20)))))))))))
def w_X7_takesField (N : Nat) (M : jM) (o : Int) (a1 : Int) (a2 : Int) (k : jM → Prop) : Prop := (w_X7_here M o (fun x1 => (jL (fun (x2 : Int) => (lp_X7_takesField_29 N o a1 a2 (fun (x7 : Int) (M8 : jM) => (if a1 < 0 then (k M8) else (w_X7_lays M8 o a1 (jW (2 + a2)) x7 (fun M9 => (k M9))))) N 0 x2 M)) (fun j8_3 => (if x1 = 94 then (j8_3 0) else (if (M o 8) < (M o 5) then (j8_3 1) else (j8_3 0)))))))
set_option maxHeartbeats 4000000 in
set_option maxRecDepth 100000 in
theorem m_X7_takesField {l : Launch} {G : jG} {N : Nat} {M : jM} {o a1 a2 : Int} {k : jM → Prop} (o_M : jOK M) (k_o : jK o = 8) (r_a1 : jR a1) (r_a2 : jR a2) (h : w_X7_takesField N M o a1 a2 k) : Met l yX7_takesField (wsG yX7_takesField cX7_takesField 5 none) (rmm 3 70) (jPc G M [.ref (jD G o), .int (jI a1), .int (jI a2)]) (qV G k) 0 0 (gA G) := by
  refine jm_start RX7 rfl (by decide) (Nat.le_of_ble_eq_true rfl) o_M ?_
  intro p e s m args below meth c ls C hr hlocks hl B
  have hl : lv_has ls 5 [(0, .ref (jD G o)), (1, .int (jI a1)), (2, .int (jI a2))] := hl
  unfold w_X7_takesField at h
  refine jr_iconst C dX7_takesField_0 ?_
  refine lv_istore_n (lv' := [(3, .int (jI 0)), (0, .ref (jD G o)), (1, .int (jI a1)), (2, .int (jI a2))]) C.1 C.2.1 dX7_takesField_1 rfl hl (by decide) rfl (fun ls hl => ?_)
  refine lv_aload_n C.1 C.2.1 dX7_takesField_2 rfl (lv_at hl 1 rfl) ?_
  refine cl_X7_here C hl.1 B q_897 ⟨Nat.le_of_ble_eq_true rfl, Nat.le_of_ble_eq_true rfl⟩ ⟨Nat.zero_le _, Nat.zero_le _⟩ (Nat.le_of_ble_eq_true rfl) k_o h dX7_takesField_3 (fun x1 r_x1 _ _ h B => ?_)
  refine jr_bipush C dX7_takesField_6 (by decide) ?_
  obtain ⟨j8_3, hj8_3, h⟩ := jx_join (P := fun j8_3 : Int → Prop => ∀ (x2 : Int) (H : Heap) (locs : List Loc) (ls : Array Slot), j8_3 x2 → (x2 = 0 ∨ x2 = 1) → Hp G M s.heap H locs → lv_has ls 5 [(3, .int (jI 0)), (0, .ref (jD G o)), (1, .int (jI a1)), (2, .int (jI a2))] → W p l e (rmm 3 70) s m args below meth c H locs 0 0 (MQ below (qV G k) args s 0 0 (gA G)) (F0 m 27 ls [.int (jI x2)])) h (by
    intro x2 H locs ls h z_x2 B hl
    refine lv_istore (lv' := [(4, .int (jI x2)), (3, .int (jI 0)), (0, .ref (jD G o)), (1, .int (jI a1)), (2, .int (jI a2))]) C.1 C.2.1 dX7_takesField_27 hl (by decide) rfl (fun ls hl => ?_)
    obtain ⟨kx29, hkx29, h⟩ : ∃ kx29 : Int → jM → Prop, (∀ (x7 : Int) (M8 : jM) (H : Heap) (locs : List Loc) (ls : Array Slot), kx29 x7 M8 → jR x7 → Hp G M8 s.heap H locs → lv_has ls 5 [(3, .int (jI x7)), (0, .ref (jD G o)), (1, .int (jI a1)), (2, .int (jI a2))] → W p l e (rmm 3 70) s m args below meth c H locs 0 0 (MQ below (qV G k) args s 0 0 (gA G)) (F0 m 94 ls [])) ∧ lp_X7_takesField_29 N o a1 a2 kx29 N 0 x2 M := by
      refine ⟨_, ?_, h⟩
      intro x7 M8 H locs ls h r_x7 B hl
      have o_M8 := B.2.2
      refine lv_iload_n C.1 C.2.1 dX7_takesField_94 rfl (lv_at hl 2 rfl) ?_
      refine jr_if_lt (tgt := 107) C r_a1 h dX7_takesField_95 (by decide) (fun hc95 h => ?_) (fun hc95 h => ?_)
      · exact jr_vret C B hr hlocks h dX7_takesField_107
      · refine lv_aload_n C.1 C.2.1 dX7_takesField_98 rfl (lv_at hl 1 rfl) ?_
        refine lv_iload_n C.1 C.2.1 dX7_takesField_99 rfl (lv_at hl 2 rfl) ?_
        refine jr_iconst C dX7_takesField_100 ?_
        refine lv_iload_n C.1 C.2.1 dX7_takesField_101 rfl (lv_at hl 3 rfl) ?_
        refine jr_iadd C dX7_takesField_102 ?_
        refine lv_iload_n C.1 C.2.1 dX7_takesField_103 rfl (lv_at hl 0 rfl) ?_
        refine cl_X7_lays C hl.1 B q_760 ⟨Nat.le_of_ble_eq_true rfl, Nat.le_of_ble_eq_true rfl⟩ ⟨Nat.zero_le _, Nat.zero_le _⟩ (Nat.le_of_ble_eq_true rfl) k_o r_a1 (jW_R _) r_x7 h dX7_takesField_104 (fun M9 _ _ h B => ?_)
        have o_M9 := B.2.2
        exact jr_vret C B hr hlocks h dX7_takesField_107
    have hL29 : ∀ (n : Nat) (x4 : Int) (x5 : Int) (M6 : jM) (H : Heap) (locs : List Loc) (ls : Array Slot), lp_X7_takesField_29 N o a1 a2 kx29 n x4 x5 M6 → jR x4 → (x5 = 0 ∨ x5 = 1) → Hp G M6 s.heap H locs → lv_has ls 5 [(3, .int (jI x4)), (4, .int (jI x5)), (0, .ref (jD G o)), (1, .int (jI a1)), (2, .int (jI a2))] → W p l e (rmm 3 70) s m args below meth c H locs 0 0 (MQ below (qV G k) args s 0 0 (gA G)) (F0 m 29 ls []) := by
      intro n
      induction n with
      | zero => intro x4 x5 M6 H locs ls h; exact (show False from h).elim
      | succ n ih29 =>
        intro x4 x5 M6 H locs ls h r_x4 z_x5 B hl
        have o_M6 := B.2.2
        rw [lp_X7_takesField_29] at h
        refine lv_iload C.1 C.2.1 dX7_takesField_29 (lv_at hl 1 rfl) ?_
        refine jr_if_eq (tgt := 94) C (zR z_x5) h dX7_takesField_31 (by decide) (fun hc31 h => ?_) (fun hc31 h => ?_)
        · exact hkx29 _ _ _ _ _ h r_x4 B (lv_sub hl [0, 2, 3, 4] rfl)
        · refine lv_aload_n C.1 C.2.1 dX7_takesField_34 rfl (lv_at hl 2 rfl) ?_
          refine lv_iload_n C.1 C.2.1 dX7_takesField_35 rfl (lv_at hl 3 rfl) ?_
          refine lv_iload_n C.1 C.2.1 dX7_takesField_36 rfl (lv_at hl 4 rfl) ?_
          refine lv_iload_n C.1 C.2.1 dX7_takesField_37 rfl (lv_at hl 0 rfl) ?_
          refine cl_X7_takesValue C hl.1 B q_909 ⟨Nat.le_of_ble_eq_true rfl, Nat.le_of_ble_eq_true rfl⟩ ⟨Nat.zero_le _, Nat.zero_le _⟩ (Nat.le_of_ble_eq_true rfl) k_o r_a1 r_a2 r_x4 h dX7_takesField_38 (fun M10 _ _ h B => ?_)
          have o_M10 := B.2.2
          refine jr_iinc (k := 0) (lv' := fun x11 => [(3, .int (jI x11)), (4, .int (jI x5)), (0, .ref (jD G o)), (1, .int (jI a1)), (2, .int (jI a2))]) C h hl rfl (by decide) (fun _ => rfl) dX7_takesField_41 (fun x11 h r_x11 ls hl => ?_)
          refine lv_aload_n C.1 C.2.1 dX7_takesField_44 rfl (lv_at hl 2 rfl) ?_
          refine gf_X7_154 C B k_o dX7_takesField_45 ?_
          refine jr_if_eq (tgt := 69) C (zR (jz_X7_9 o_M10 k_o)) h dX7_takesField_48 (by decide) (fun hc48 h => ?_) (fun hc48 h => ?_)
          · refine jr_iconst C dX7_takesField_69 ?_
            refine lv_istore (lv' := [(4, .int (jI 0)), (3, .int (jI x11)), (0, .ref (jD G o)), (1, .int (jI a1)), (2, .int (jI a2))]) C.1 C.2.1 dX7_takesField_70 hl (by decide) rfl (fun ls hl => ?_)
            refine lv_aload_n C.1 C.2.1 dX7_takesField_72 rfl (lv_at hl 2 rfl) ?_
            refine lv_dup C.1 C.2.1 dX7_takesField_73 rfl ?_
            refine gf_X7_151 C B k_o dX7_takesField_74 ?_
            refine lv_iload C.1 C.2.1 dX7_takesField_77 (lv_at hl 0 rfl) ?_
            refine jr_if_eq (tgt := 86) C (jkc rfl) h dX7_takesField_79 (by decide) (fun hc79 h => ?_) (fun hc79 h => ?_)
            · refine jr_iconst C dX7_takesField_86 ?_
              refine jr_iadd C dX7_takesField_87 ?_
              refine pf_X7_151 C B k_o (jW_R _) h dX7_takesField_88 (fun M12 _ _ h B => ?_)
              have o_M12 := B.2.2
              refine lv_goto (tgt := 29) C.1 C.2.1 dX7_takesField_91 (by decide) ?_
              exact ih29 _ _ _ _ _ _ h r_x11 (Or.inl rfl) B (lv_sub hl [1, 0, 2, 3, 4] rfl)
            · refine jr_iconst C dX7_takesField_82 ?_
              refine lv_goto (tgt := 87) C.1 C.2.1 dX7_takesField_83 (by decide) ?_
              refine jr_iadd C dX7_takesField_87 ?_
              refine pf_X7_151 C B k_o (jW_R _) h dX7_takesField_88 (fun M13 _ _ h B => ?_)
              have o_M13 := B.2.2
              refine lv_goto (tgt := 29) C.1 C.2.1 dX7_takesField_91 (by decide) ?_
              exact ih29 _ _ _ _ _ _ h r_x11 (Or.inl rfl) B (lv_sub hl [1, 0, 2, 3, 4] rfl)
          · refine lv_iload_n C.1 C.2.1 dX7_takesField_51 rfl (lv_at hl 0 rfl) ?_
            refine jr_iconst C dX7_takesField_52 ?_
            refine jr_icmp_ge (tgt := 69) C r_x11 (jkc rfl) h dX7_takesField_53 (by decide) (fun hc53 h => ?_) (fun hc53 h => ?_)
            · refine lv_aload_n C.1 C.2.1 dX7_takesField_56 rfl (lv_at hl 2 rfl) ?_
              refine cl_X7_here C hl.1 B q_897 ⟨Nat.le_of_ble_eq_true rfl, Nat.le_of_ble_eq_true rfl⟩ ⟨Nat.zero_le _, Nat.zero_le _⟩ (Nat.le_of_ble_eq_true rfl) k_o h dX7_takesField_57 (fun x14 r_x14 _ _ h B => ?_)
              refine jr_bipush C dX7_takesField_60 (by decide) ?_
              refine jr_icmp_ne (tgt := 69) C r_x14 (jkc rfl) h dX7_takesField_62 (by decide) (fun hc62 h => ?_) (fun hc62 h => ?_)
              · refine jr_iconst C dX7_takesField_65 ?_
                refine lv_goto (tgt := 70) C.1 C.2.1 dX7_takesField_66 (by decide) ?_
                refine lv_istore (lv' := [(4, .int (jI 1)), (3, .int (jI x11)), (0, .ref (jD G o)), (1, .int (jI a1)), (2, .int (jI a2))]) C.1 C.2.1 dX7_takesField_70 hl (by decide) rfl (fun ls hl => ?_)
                refine lv_aload_n C.1 C.2.1 dX7_takesField_72 rfl (lv_at hl 2 rfl) ?_
                refine lv_dup C.1 C.2.1 dX7_takesField_73 rfl ?_
                refine gf_X7_151 C B k_o dX7_takesField_74 ?_
                refine lv_iload C.1 C.2.1 dX7_takesField_77 (lv_at hl 0 rfl) ?_
                refine jr_if_eq (tgt := 86) C (jkc rfl) h dX7_takesField_79 (by decide) (fun hc79 h => ?_) (fun hc79 h => ?_)
                · refine jr_iconst C dX7_takesField_86 ?_
                  refine jr_iadd C dX7_takesField_87 ?_
                  refine pf_X7_151 C B k_o (jW_R _) h dX7_takesField_88 (fun M15 _ _ h B => ?_)
                  have o_M15 := B.2.2
                  refine lv_goto (tgt := 29) C.1 C.2.1 dX7_takesField_91 (by decide) ?_
                  exact ih29 _ _ _ _ _ _ h r_x11 (Or.inr rfl) B (lv_sub hl [1, 0, 2, 3, 4] rfl)
                · refine jr_iconst C dX7_takesField_82 ?_
                  refine lv_goto (tgt := 87) C.1 C.2.1 dX7_takesField_83 (by decide) ?_
                  refine jr_iadd C dX7_takesField_87 ?_
                  refine pf_X7_151 C B k_o (jW_R _) h dX7_takesField_88 (fun M16 _ _ h B => ?_)
                  have o_M16 := B.2.2
                  refine lv_goto (tgt := 29) C.1 C.2.1 dX7_takesField_91 (by decide) ?_
                  exact ih29 _ _ _ _ _ _ h r_x11 (Or.inr rfl) B (lv_sub hl [1, 0, 2, 3, 4] rfl)
              · refine jr_iconst C dX7_takesField_69 ?_
                refine lv_istore (lv' := [(4, .int (jI 0)), (3, .int (jI x11)), (0, .ref (jD G o)), (1, .int (jI a1)), (2, .int (jI a2))]) C.1 C.2.1 dX7_takesField_70 hl (by decide) rfl (fun ls hl => ?_)
                refine lv_aload_n C.1 C.2.1 dX7_takesField_72 rfl (lv_at hl 2 rfl) ?_
                refine lv_dup C.1 C.2.1 dX7_takesField_73 rfl ?_
                refine gf_X7_151 C B k_o dX7_takesField_74 ?_
                refine lv_iload C.1 C.2.1 dX7_takesField_77 (lv_at hl 0 rfl) ?_
                refine jr_if_eq (tgt := 86) C (jkc rfl) h dX7_takesField_79 (by decide) (fun hc79 h => ?_) (fun hc79 h => ?_)
                · refine jr_iconst C dX7_takesField_86 ?_
                  refine jr_iadd C dX7_takesField_87 ?_
                  refine pf_X7_151 C B k_o (jW_R _) h dX7_takesField_88 (fun M17 _ _ h B => ?_)
                  have o_M17 := B.2.2
                  refine lv_goto (tgt := 29) C.1 C.2.1 dX7_takesField_91 (by decide) ?_
                  exact ih29 _ _ _ _ _ _ h r_x11 (Or.inl rfl) B (lv_sub hl [1, 0, 2, 3, 4] rfl)
                · refine jr_iconst C dX7_takesField_82 ?_
                  refine lv_goto (tgt := 87) C.1 C.2.1 dX7_takesField_83 (by decide) ?_
                  refine jr_iadd C dX7_takesField_87 ?_
                  refine pf_X7_151 C B k_o (jW_R _) h dX7_takesField_88 (fun M18 _ _ h B => ?_)
                  have o_M18 := B.2.2
                  refine lv_goto (tgt := 29) C.1 C.2.1 dX7_takesField_91 (by decide) ?_
                  exact ih29 _ _ _ _ _ _ h r_x11 (Or.inl rfl) B (lv_sub hl [1, 0, 2, 3, 4] rfl)
            · refine jr_iconst C dX7_takesField_69 ?_
              refine lv_istore (lv' := [(4, .int (jI 0)), (3, .int (jI x11)), (0, .ref (jD G o)), (1, .int (jI a1)), (2, .int (jI a2))]) C.1 C.2.1 dX7_takesField_70 hl (by decide) rfl (fun ls hl => ?_)
              refine lv_aload_n C.1 C.2.1 dX7_takesField_72 rfl (lv_at hl 2 rfl) ?_
              refine lv_dup C.1 C.2.1 dX7_takesField_73 rfl ?_
              refine gf_X7_151 C B k_o dX7_takesField_74 ?_
              refine lv_iload C.1 C.2.1 dX7_takesField_77 (lv_at hl 0 rfl) ?_
              refine jr_if_eq (tgt := 86) C (jkc rfl) h dX7_takesField_79 (by decide) (fun hc79 h => ?_) (fun hc79 h => ?_)
              · refine jr_iconst C dX7_takesField_86 ?_
                refine jr_iadd C dX7_takesField_87 ?_
                refine pf_X7_151 C B k_o (jW_R _) h dX7_takesField_88 (fun M19 _ _ h B => ?_)
                have o_M19 := B.2.2
                refine lv_goto (tgt := 29) C.1 C.2.1 dX7_takesField_91 (by decide) ?_
                exact ih29 _ _ _ _ _ _ h r_x11 (Or.inl rfl) B (lv_sub hl [1, 0, 2, 3, 4] rfl)
              · refine jr_iconst C dX7_takesField_82 ?_
                refine lv_goto (tgt := 87) C.1 C.2.1 dX7_takesField_83 (by decide) ?_
                refine jr_iadd C dX7_takesField_87 ?_
                refine pf_X7_151 C B k_o (jW_R _) h dX7_takesField_88 (fun M20 _ _ h B => ?_)
                have o_M20 := B.2.2
                refine lv_goto (tgt := 29) C.1 C.2.1 dX7_takesField_91 (by decide) ?_
                exact ih29 _ _ _ _ _ _ h r_x11 (Or.inl rfl) B (lv_sub hl [1, 0, 2, 3, 4] rfl)
    exact hL29 N _ _ _ _ _ _ h (jkc rfl) z_x2 B (lv_sub hl [1, 0, 2, 3, 4] rfl))
  refine jr_icmp_eq (tgt := 26) C r_x1 (jkc rfl) h dX7_takesField_8 (by decide) (fun hc8 h => ?_) (fun hc8 h => ?_)
  · refine jr_iconst C dX7_takesField_26 ?_
    exact hj8_3 _ _ _ _ h (Or.inl rfl) B (lv_sub hl [0, 1, 2, 3] rfl)
  · refine lv_aload_n C.1 C.2.1 dX7_takesField_11 rfl (lv_at hl 1 rfl) ?_
    refine gf_X7_151 C B k_o dX7_takesField_12 ?_
    refine lv_aload_n C.1 C.2.1 dX7_takesField_15 rfl (lv_at hl 1 rfl) ?_
    refine gf_X7_148 C B k_o dX7_takesField_16 ?_
    refine jr_icmp_ge (tgt := 26) C (o_M o 8).1 (o_M o 5).1 h dX7_takesField_19 (by decide) (fun hc19 h => ?_) (fun hc19 h => ?_)
    · refine jr_iconst C dX7_takesField_22 ?_
      refine lv_goto (tgt := 27) C.1 C.2.1 dX7_takesField_23 (by decide) ?_
      exact hj8_3 _ _ _ _ h (Or.inr rfl) B (lv_sub hl [0, 1, 2, 3] rfl)
    · refine jr_iconst C dX7_takesField_26 ?_
      exact hj8_3 _ _ _ _ h (Or.inl rfl) B (lv_sub hl [0, 1, 2, 3] rfl)
theorem cl_X7_takesField {p : Program} {l : Launch} {e : Env} {R : Room} {s : State} {m : MethodId} {args : Array Value} {below : List Frame} {meth : Method} {c : Code} {H : Heap} {locs : List Loc} {cells slots : Nat} {Q : State → Prop} {cc : ByteArray} {nL : Nat} {own : String} {G : jG} {H0 : Heap} {pc idx : Nat} {ls : Array Slot} {rest : List Value} {N : Nat} {M : jM} {o a1 a2 : Int} {k : jM → Prop} (C : Cx G p s args m c cc nL own) (hl : ls.size = nL) (B : Hp G M H0 H locs) (q1 : Cond.methodLink own idx yX7_takesField ∈ tb) (hR : (rmm 3 70).frames + 1 ≤ R.frames ∧ 8 + (5 + 11) + (rmm 3 70).locals ≤ R.locals) (hcs : cells ≤ R.cells ∧ slots ≤ R.slots) (hW : (rest.map fun v => v.category).sum ≤ 8) (k_o : jK o = 8) (r_a1 : jR a1) (r_a2 : jR a2) (h : w_X7_takesField N M o a1 a2 k) (hdg : decode cc pc = .ok (.invokevirtual idx, 3)) (kk : ∀ (M' : jM) (H1 : Heap) (locs1 : List Loc), k M' → Hp G M' H0 H1 locs1 → W p l e R s m args below meth c H1 locs1 cells slots Q (F0 m (pc + 3) ls rest)) : W p l e R s m args below meth c H locs cells slots Q (F0 m pc ls (.int (jI a2) :: .int (jI a1) :: .ref (jD G o) :: rest)) :=
  jr_callV B (jr_runV (o := o) (As := [.int (jI a1), .int (jI a2)]) (n := 2) C hl B (m_X7_takesField B.2.2 k_o r_a1 r_a2 h) (jE8 k_o) (by omega) rfl q1 q_907 qs_49 q_908 q_8 ⟨by decide, by decide, by decide +kernel⟩ rfl ⟨rfl, rfl⟩ hR hcs rfl hW hdg) (fun M' H1 locs1 hk B1 => kk M' H1 locs1 hk B1)
def lp_X7_takesAll_12 (N : Nat) (o : Int) (a1 : Int) (kx12 : jM → Prop) : Nat → Int → jM → Prop
  | 0, _, _ => False
  | n + 1, x3, M4 => (if x3 < 4 then (if (M4 o 9) = 0 then (kx12 M4) else (if x3 ≤ 0 then (if (M4 o 9) = 0 then (jL (jW (x3 + 1)) (fun x6 => (lp_X7_takesAll_12 N o a1 kx12 n x6 M4))) else (w_X7_takesField N M4 o a1 x3 (fun M7 => (jL (jW (x3 + 1)) (fun x8 => (lp_X7_takesAll_12 N o a1 kx12 n x8 M7)))))) else (w_X7_here M4 o (fun x9 => (if x9 = 94 then (w_X7_takes M4 o 1 (fun M10 => (if (M10 o 9) = 0 then (jL (jW (x3 + 1)) (fun x11 => (lp_X7_takesAll_12 N o a1 kx12 n x11 M10))) else (w_X7_takesField N M10 o a1 x3 (fun M12 => (jL (jW (x3 + 1)) (fun x13 => (lp_X7_takesAll_12 N o a1 kx12 n x13 M12)))))))) else (w_X7_takes M4 o 0 (fun M14 => (if (M14 o 9) = 0 then (jL (jW (x3 + 1)) (fun x15 => (lp_X7_takesAll_12 N o a1 kx12 n x15 M14))) else (w_X7_takesField N M14 o a1 x3 (fun M16 => (jL (jW (x3 + 1)) (fun x17 => (lp_X7_takesAll_12 N o a1 kx12 n x17 M16))))))))))))) else (kx12 M4))
def w_X7_takesAll (N : Nat) (M : jM) (o : Int) (a1 : Int) (k : Int → jM → Prop) : Prop := (jL (jU M o 8 0) (fun M1 => (jL (jU M1 o 9 1) (fun M2 => (lp_X7_takesAll_12 N o a1 (fun (M5 : jM) => (if (M5 o 9) = 0 then (k 0 M5) else (if (M5 o 8) = (M5 o 5) then (k 1 M5) else (k 0 M5)))) N 0 M2)))))
set_option maxHeartbeats 4000000 in
set_option maxRecDepth 100000 in
theorem m_X7_takesAll {l : Launch} {G : jG} {N : Nat} {M : jM} {o a1 : Int} {k : Int → jM → Prop} (o_M : jOK M) (k_o : jK o = 8) (r_a1 : jR a1) (h : w_X7_takesAll N M o a1 k) : Met l yX7_takesAll (wsG yX7_takesAll cX7_takesAll 3 (some .boolean)) (rmm 4 94) (jPc G M [.ref (jD G o), .int (jI a1)]) (qZ G k) 0 0 (gA G) := by
  refine jm_start RX7 rfl (by decide) (Nat.le_of_ble_eq_true rfl) o_M ?_
  intro p e s m args below meth c ls C hr hlocks hl B
  have hl : lv_has ls 3 [(0, .ref (jD G o)), (1, .int (jI a1))] := hl
  unfold w_X7_takesAll at h
  refine lv_aload_n C.1 C.2.1 dX7_takesAll_0 rfl (lv_at hl 0 rfl) ?_
  refine jr_iconst C dX7_takesAll_1 ?_
  refine pf_X7_151 C B k_o (jkc rfl) h dX7_takesAll_2 (fun M1 _ _ h B => ?_)
  have o_M1 := B.2.2
  refine lv_aload_n C.1 C.2.1 dX7_takesAll_5 rfl (lv_at hl 0 rfl) ?_
  refine jr_iconst C dX7_takesAll_6 ?_
  refine pf_X7_154 C B k_o (Or.inr rfl) h dX7_takesAll_7 (fun M2 _ _ h B => ?_)
  have o_M2 := B.2.2
  refine jr_iconst C dX7_takesAll_10 ?_
  refine lv_istore_n (lv' := [(2, .int (jI 0)), (0, .ref (jD G o)), (1, .int (jI a1))]) C.1 C.2.1 dX7_takesAll_11 rfl hl (by decide) rfl (fun ls hl => ?_)
  obtain ⟨kx12, hkx12, h⟩ : ∃ kx12 : jM → Prop, (∀ (M5 : jM) (H : Heap) (locs : List Loc) (ls : Array Slot), kx12 M5 → Hp G M5 s.heap H locs → lv_has ls 3 [(0, .ref (jD G o))] → W p l e (rmm 4 94) s m args below meth c H locs 0 0 (MQ below (qZ G k) args s 0 0 (gA G)) (F0 m 65 ls [])) ∧ lp_X7_takesAll_12 N o a1 kx12 N 0 M2 := by
    refine ⟨_, ?_, h⟩
    intro M5 H locs ls h  B hl
    have o_M5 := B.2.2
    refine lv_aload_n C.1 C.2.1 dX7_takesAll_65 rfl (lv_at hl 0 rfl) ?_
    refine gf_X7_154 C B k_o dX7_takesAll_66 ?_
    refine jr_if_eq (tgt := 87) C (zR (jz_X7_9 o_M5 k_o)) h dX7_takesAll_69 (by decide) (fun hc69 h => ?_) (fun hc69 h => ?_)
    · refine jr_iconst C dX7_takesAll_87 ?_
      exact jr_zret C B hr hlocks (Or.inl rfl) h dX7_takesAll_88
    · refine lv_aload_n C.1 C.2.1 dX7_takesAll_72 rfl (lv_at hl 0 rfl) ?_
      refine gf_X7_151 C B k_o dX7_takesAll_73 ?_
      refine lv_aload_n C.1 C.2.1 dX7_takesAll_76 rfl (lv_at hl 0 rfl) ?_
      refine gf_X7_148 C B k_o dX7_takesAll_77 ?_
      refine jr_icmp_ne (tgt := 87) C (o_M5 o 8).1 (o_M5 o 5).1 h dX7_takesAll_80 (by decide) (fun hc80 h => ?_) (fun hc80 h => ?_)
      · refine jr_iconst C dX7_takesAll_83 ?_
        refine lv_goto (tgt := 88) C.1 C.2.1 dX7_takesAll_84 (by decide) ?_
        exact jr_zret C B hr hlocks (Or.inr rfl) h dX7_takesAll_88
      · refine jr_iconst C dX7_takesAll_87 ?_
        exact jr_zret C B hr hlocks (Or.inl rfl) h dX7_takesAll_88
  have hL12 : ∀ (n : Nat) (x3 : Int) (M4 : jM) (H : Heap) (locs : List Loc) (ls : Array Slot), lp_X7_takesAll_12 N o a1 kx12 n x3 M4 → jR x3 → Hp G M4 s.heap H locs → lv_has ls 3 [(2, .int (jI x3)), (0, .ref (jD G o)), (1, .int (jI a1))] → W p l e (rmm 4 94) s m args below meth c H locs 0 0 (MQ below (qZ G k) args s 0 0 (gA G)) (F0 m 12 ls []) := by
    intro n
    induction n with
    | zero => intro x3 M4 H locs ls h; exact (show False from h).elim
    | succ n ih12 =>
      intro x3 M4 H locs ls h r_x3 B hl
      have o_M4 := B.2.2
      rw [lp_X7_takesAll_12] at h
      refine lv_iload_n C.1 C.2.1 dX7_takesAll_12 rfl (lv_at hl 0 rfl) ?_
      refine jr_iconst C dX7_takesAll_13 ?_
      refine jr_icmp_ge (tgt := 65) C r_x3 (jkc rfl) h dX7_takesAll_14 (by decide) (fun hc14 h => ?_) (fun hc14 h => ?_)
      · refine lv_aload_n C.1 C.2.1 dX7_takesAll_17 rfl (lv_at hl 1 rfl) ?_
        refine gf_X7_154 C B k_o dX7_takesAll_18 ?_
        refine jr_if_eq (tgt := 65) C (zR (jz_X7_9 o_M4 k_o)) h dX7_takesAll_21 (by decide) (fun hc21 h => ?_) (fun hc21 h => ?_)
        · exact hkx12 _ _ _ _ h  B (lv_sub hl [1] rfl)
        · refine lv_iload_n C.1 C.2.1 dX7_takesAll_24 rfl (lv_at hl 0 rfl) ?_
          refine jr_if_le (tgt := 46) C r_x3 h dX7_takesAll_25 (by decide) (fun hc25 h => ?_) (fun hc25 h => ?_)
          · refine lv_aload_n C.1 C.2.1 dX7_takesAll_46 rfl (lv_at hl 1 rfl) ?_
            refine gf_X7_154 C B k_o dX7_takesAll_47 ?_
            refine jr_if_eq (tgt := 59) C (zR (jz_X7_9 o_M4 k_o)) h dX7_takesAll_50 (by decide) (fun hc50 h => ?_) (fun hc50 h => ?_)
            · refine jr_iinc (k := 0) (lv' := fun x6 => [(2, .int (jI x6)), (0, .ref (jD G o)), (1, .int (jI a1))]) C h hl rfl (by decide) (fun _ => rfl) dX7_takesAll_59 (fun x6 h r_x6 ls hl => ?_)
              refine lv_goto (tgt := 12) C.1 C.2.1 dX7_takesAll_62 (by decide) ?_
              exact ih12 _ _ _ _ _ h r_x6 B (lv_sub hl [0, 1, 2] rfl)
            · refine lv_aload_n C.1 C.2.1 dX7_takesAll_53 rfl (lv_at hl 1 rfl) ?_
              refine lv_iload_n C.1 C.2.1 dX7_takesAll_54 rfl (lv_at hl 2 rfl) ?_
              refine lv_iload_n C.1 C.2.1 dX7_takesAll_55 rfl (lv_at hl 0 rfl) ?_
              refine cl_X7_takesField C hl.1 B q_905 ⟨Nat.le_of_ble_eq_true rfl, Nat.le_of_ble_eq_true rfl⟩ ⟨Nat.zero_le _, Nat.zero_le _⟩ (Nat.le_of_ble_eq_true rfl) k_o r_a1 r_x3 h dX7_takesAll_56 (fun M7 _ _ h B => ?_)
              have o_M7 := B.2.2
              refine jr_iinc (k := 0) (lv' := fun x8 => [(2, .int (jI x8)), (0, .ref (jD G o)), (1, .int (jI a1))]) C h hl rfl (by decide) (fun _ => rfl) dX7_takesAll_59 (fun x8 h r_x8 ls hl => ?_)
              refine lv_goto (tgt := 12) C.1 C.2.1 dX7_takesAll_62 (by decide) ?_
              exact ih12 _ _ _ _ _ h r_x8 B (lv_sub hl [0, 1, 2] rfl)
          · refine lv_aload_n C.1 C.2.1 dX7_takesAll_28 rfl (lv_at hl 1 rfl) ?_
            refine lv_aload_n C.1 C.2.1 dX7_takesAll_29 rfl (lv_at hl 1 rfl) ?_
            refine cl_X7_here C hl.1 B q_897 ⟨Nat.le_of_ble_eq_true rfl, Nat.le_of_ble_eq_true rfl⟩ ⟨Nat.zero_le _, Nat.zero_le _⟩ (Nat.le_of_ble_eq_true rfl) k_o h dX7_takesAll_30 (fun x9 r_x9 _ _ h B => ?_)
            refine jr_bipush C dX7_takesAll_33 (by decide) ?_
            refine jr_icmp_ne (tgt := 42) C r_x9 (jkc rfl) h dX7_takesAll_35 (by decide) (fun hc35 h => ?_) (fun hc35 h => ?_)
            · refine jr_iconst C dX7_takesAll_38 ?_
              refine lv_goto (tgt := 43) C.1 C.2.1 dX7_takesAll_39 (by decide) ?_
              refine cl_X7_takes C hl.1 B q_901 ⟨Nat.le_of_ble_eq_true rfl, Nat.le_of_ble_eq_true rfl⟩ ⟨Nat.zero_le _, Nat.zero_le _⟩ (Nat.le_of_ble_eq_true rfl) k_o (Or.inr rfl) h dX7_takesAll_43 (fun M10 _ _ h B => ?_)
              have o_M10 := B.2.2
              refine lv_aload_n C.1 C.2.1 dX7_takesAll_46 rfl (lv_at hl 1 rfl) ?_
              refine gf_X7_154 C B k_o dX7_takesAll_47 ?_
              refine jr_if_eq (tgt := 59) C (zR (jz_X7_9 o_M10 k_o)) h dX7_takesAll_50 (by decide) (fun hc50 h => ?_) (fun hc50 h => ?_)
              · refine jr_iinc (k := 0) (lv' := fun x11 => [(2, .int (jI x11)), (0, .ref (jD G o)), (1, .int (jI a1))]) C h hl rfl (by decide) (fun _ => rfl) dX7_takesAll_59 (fun x11 h r_x11 ls hl => ?_)
                refine lv_goto (tgt := 12) C.1 C.2.1 dX7_takesAll_62 (by decide) ?_
                exact ih12 _ _ _ _ _ h r_x11 B (lv_sub hl [0, 1, 2] rfl)
              · refine lv_aload_n C.1 C.2.1 dX7_takesAll_53 rfl (lv_at hl 1 rfl) ?_
                refine lv_iload_n C.1 C.2.1 dX7_takesAll_54 rfl (lv_at hl 2 rfl) ?_
                refine lv_iload_n C.1 C.2.1 dX7_takesAll_55 rfl (lv_at hl 0 rfl) ?_
                refine cl_X7_takesField C hl.1 B q_905 ⟨Nat.le_of_ble_eq_true rfl, Nat.le_of_ble_eq_true rfl⟩ ⟨Nat.zero_le _, Nat.zero_le _⟩ (Nat.le_of_ble_eq_true rfl) k_o r_a1 r_x3 h dX7_takesAll_56 (fun M12 _ _ h B => ?_)
                have o_M12 := B.2.2
                refine jr_iinc (k := 0) (lv' := fun x13 => [(2, .int (jI x13)), (0, .ref (jD G o)), (1, .int (jI a1))]) C h hl rfl (by decide) (fun _ => rfl) dX7_takesAll_59 (fun x13 h r_x13 ls hl => ?_)
                refine lv_goto (tgt := 12) C.1 C.2.1 dX7_takesAll_62 (by decide) ?_
                exact ih12 _ _ _ _ _ h r_x13 B (lv_sub hl [0, 1, 2] rfl)
            · refine jr_iconst C dX7_takesAll_42 ?_
              refine cl_X7_takes C hl.1 B q_901 ⟨Nat.le_of_ble_eq_true rfl, Nat.le_of_ble_eq_true rfl⟩ ⟨Nat.zero_le _, Nat.zero_le _⟩ (Nat.le_of_ble_eq_true rfl) k_o (Or.inl rfl) h dX7_takesAll_43 (fun M14 _ _ h B => ?_)
              have o_M14 := B.2.2
              refine lv_aload_n C.1 C.2.1 dX7_takesAll_46 rfl (lv_at hl 1 rfl) ?_
              refine gf_X7_154 C B k_o dX7_takesAll_47 ?_
              refine jr_if_eq (tgt := 59) C (zR (jz_X7_9 o_M14 k_o)) h dX7_takesAll_50 (by decide) (fun hc50 h => ?_) (fun hc50 h => ?_)
              · refine jr_iinc (k := 0) (lv' := fun x15 => [(2, .int (jI x15)), (0, .ref (jD G o)), (1, .int (jI a1))]) C h hl rfl (by decide) (fun _ => rfl) dX7_takesAll_59 (fun x15 h r_x15 ls hl => ?_)
                refine lv_goto (tgt := 12) C.1 C.2.1 dX7_takesAll_62 (by decide) ?_
                exact ih12 _ _ _ _ _ h r_x15 B (lv_sub hl [0, 1, 2] rfl)
              · refine lv_aload_n C.1 C.2.1 dX7_takesAll_53 rfl (lv_at hl 1 rfl) ?_
                refine lv_iload_n C.1 C.2.1 dX7_takesAll_54 rfl (lv_at hl 2 rfl) ?_
                refine lv_iload_n C.1 C.2.1 dX7_takesAll_55 rfl (lv_at hl 0 rfl) ?_
                refine cl_X7_takesField C hl.1 B q_905 ⟨Nat.le_of_ble_eq_true rfl, Nat.le_of_ble_eq_true rfl⟩ ⟨Nat.zero_le _, Nat.zero_le _⟩ (Nat.le_of_ble_eq_true rfl) k_o r_a1 r_x3 h dX7_takesAll_56 (fun M16 _ _ h B => ?_)
                have o_M16 := B.2.2
                refine jr_iinc (k := 0) (lv' := fun x17 => [(2, .int (jI x17)), (0, .ref (jD G o)), (1, .int (jI a1))]) C h hl rfl (by decide) (fun _ => rfl) dX7_takesAll_59 (fun x17 h r_x17 ls hl => ?_)
                refine lv_goto (tgt := 12) C.1 C.2.1 dX7_takesAll_62 (by decide) ?_
                exact ih12 _ _ _ _ _ h r_x17 B (lv_sub hl [0, 1, 2] rfl)
      · exact hkx12 _ _ _ _ h  B (lv_sub hl [1] rfl)
  exact hL12 N _ _ _ _ _ h (jkc rfl) B (lv_sub hl [0, 1, 2] rfl)
theorem cl_X7_takesAll {p : Program} {l : Launch} {e : Env} {R : Room} {s : State} {m : MethodId} {args : Array Value} {below : List Frame} {meth : Method} {c : Code} {H : Heap} {locs : List Loc} {cells slots : Nat} {Q : State → Prop} {cc : ByteArray} {nL : Nat} {own : String} {G : jG} {H0 : Heap} {pc idx : Nat} {ls : Array Slot} {rest : List Value} {N : Nat} {M : jM} {o a1 : Int} {k : Int → jM → Prop} (C : Cx G p s args m c cc nL own) (hl : ls.size = nL) (B : Hp G M H0 H locs) (q1 : Cond.methodLink own idx yX7_takesAll ∈ tb) (hR : (rmm 4 94).frames + 1 ≤ R.frames ∧ 8 + (3 + 11) + (rmm 4 94).locals ≤ R.locals) (hcs : cells ≤ R.cells ∧ slots ≤ R.slots) (hW : (rest.map fun v => v.category).sum ≤ 8) (k_o : jK o = 8) (r_a1 : jR a1) (h : w_X7_takesAll N M o a1 k) (hdg : decode cc pc = .ok (.invokevirtual idx, 3)) (kk : ∀ (r : Int) (M' : jM), (r = 0 ∨ r = 1) → ∀ (H1 : Heap) (locs1 : List Loc), k r M' → Hp G M' H0 H1 locs1 → W p l e R s m args below meth c H1 locs1 cells slots Q (F0 m (pc + 3) ls (.int (jI r) :: rest))) : W p l e R s m args below meth c H locs cells slots Q (F0 m pc ls (.int (jI a1) :: .ref (jD G o) :: rest)) :=
  jr_callZ B (jr_runV (o := o) (As := [.int (jI a1)]) (n := 1) C hl B (m_X7_takesAll B.2.2 k_o r_a1 h) (jE8 k_o) (by omega) rfl q1 q_895 qs_46 q_896 q_8 ⟨by decide, by decide, by decide +kernel⟩ rfl ⟨rfl, rfl⟩ hR hcs rfl hW hdg) (fun r M' H1 locs1 hr hk B1 => kk r M' hr H1 locs1 hk B1)
def w_X7_fault (N : Nat) (M : jM) (o : Int) (k : Int → jM → Prop) : Prop := (w_X7_takesAll N M o (-1000007) (fun x1 M2 => (if x1 = 0 then (k (M2 o 8) M2) else (k (-1000007) M2))))
set_option maxHeartbeats 4000000 in
set_option maxRecDepth 100000 in
theorem m_X7_fault {l : Launch} {G : jG} {N : Nat} {M : jM} {o : Int} {k : Int → jM → Prop} (o_M : jOK M) (k_o : jK o = 8) (h : w_X7_fault N M o k) : Met l yX7_fault (wsG yX7_fault cX7_fault 1 (some .int)) (rmm 5 116) (jPc G M [.ref (jD G o)]) (qI G k) 0 0 (gA G) := by
  refine jm_start RX7 rfl (by decide) (Nat.le_of_ble_eq_true rfl) o_M ?_
  intro p e s m args below meth c ls C hr hlocks hl B
  have hl : lv_has ls 1 [(0, .ref (jD G o))] := hl
  unfold w_X7_fault at h
  refine lv_aload_n C.1 C.2.1 dX7_fault_0 rfl (lv_at hl 0 rfl) ?_
  refine jr_ldc (n := -1000007) C q_892 (by decide) dX7_fault_1 ?_
  refine cl_X7_takesAll C hl.1 B q_893 ⟨Nat.le_of_ble_eq_true rfl, Nat.le_of_ble_eq_true rfl⟩ ⟨Nat.zero_le _, Nat.zero_le _⟩ (Nat.le_of_ble_eq_true rfl) k_o (jkc rfl) h dX7_fault_3 (fun x1 M2 z_x1 _ _ h B => ?_)
  have o_M2 := B.2.2
  refine jr_if_eq (tgt := 14) C (zR z_x1) h dX7_fault_6 (by decide) (fun hc6 h => ?_) (fun hc6 h => ?_)
  · refine lv_aload_n C.1 C.2.1 dX7_fault_14 rfl (lv_at hl 0 rfl) ?_
    refine gf_X7_151 C B k_o dX7_fault_15 ?_
    exact jr_iret C B hr hlocks (o_M2 o 8).1 h dX7_fault_18
  · refine jr_ldc (n := -1000007) C q_892 (by decide) dX7_fault_9 ?_
    refine lv_goto (tgt := 18) C.1 C.2.1 dX7_fault_11 (by decide) ?_
    exact jr_iret C B hr hlocks (jkc rfl) h dX7_fault_18
theorem cl_X7_fault {p : Program} {l : Launch} {e : Env} {R : Room} {s : State} {m : MethodId} {args : Array Value} {below : List Frame} {meth : Method} {c : Code} {H : Heap} {locs : List Loc} {cells slots : Nat} {Q : State → Prop} {cc : ByteArray} {nL : Nat} {own : String} {G : jG} {H0 : Heap} {pc idx : Nat} {ls : Array Slot} {rest : List Value} {N : Nat} {M : jM} {o : Int} {k : Int → jM → Prop} (C : Cx G p s args m c cc nL own) (hl : ls.size = nL) (B : Hp G M H0 H locs) (q1 : Cond.methodLink own idx yX7_fault ∈ tb) (hR : (rmm 5 116).frames + 1 ≤ R.frames ∧ 8 + (1 + 11) + (rmm 5 116).locals ≤ R.locals) (hcs : cells ≤ R.cells ∧ slots ≤ R.slots) (hW : (rest.map fun v => v.category).sum ≤ 8) (k_o : jK o = 8) (h : w_X7_fault N M o k) (hdg : decode cc pc = .ok (.invokevirtual idx, 3)) (kk : ∀ (r : Int) (M' : jM), jR r → ∀ (H1 : Heap) (locs1 : List Loc), k r M' → Hp G M' H0 H1 locs1 → W p l e R s m args below meth c H1 locs1 cells slots Q (F0 m (pc + 3) ls (.int (jI r) :: rest))) : W p l e R s m args below meth c H locs cells slots Q (F0 m pc ls (.ref (jD G o) :: rest)) :=
  jr_callI B (jr_runV (o := o) (As := []) (n := 0) C hl B (m_X7_fault B.2.2 k_o h) (jE8 k_o) (by omega) rfl q1 q_889 q_890 q_891 q_8 ⟨by decide, by decide, by decide +kernel⟩ rfl ⟨rfl, rfl⟩ hR hcs rfl hW hdg) (fun r M' H1 locs1 hr hk B1 => kk r M' hr H1 locs1 hk B1)
def lp_X7_load_84 (o : Int) (x1 : Int) (M11 : jM) (kx84 : Int → Prop) : Nat → Int → Int → Prop
  | 0, _, _ => False
  | n + 1, x12, x13 => (if x13 < 26 then (w_X7_of M11 o x1 x13 (fun x17 => (jL (jW (x12 + x17)) (fun x18 => (jL (jW (x13 + 1)) (fun x19 => (lp_X7_load_84 o x1 M11 kx84 n x18 x19))))))) else (kx84 x12))
def lp_X7_load_49 (o : Int) (x1 : Int) (kx49 : jM → Prop) : Nat → Int → jM → Prop
  | 0, _, _ => False
  | n + 1, x7, M8 => (if x7 < 106 then (w_X7_lays M8 o x1 x7 0 (fun M20 => (jL (jW (x7 + 1)) (fun x21 => (lp_X7_load_49 o x1 kx49 n x21 M20))))) else (kx49 M8))
def w_X7_load (N : Nat) (M : jM) (o : Int) (a1 : Int) (a2 : Int) (k : Int → jM → Prop) : Prop := (w_X7_placeOf N M o a2 (fun x1 => (w_X7_errorOf N M o a1 a2 (fun x2 => (if x2 < 0 then (k (-1000001) M) else (w_X7_takesAll N M o (-1000007) (fun x3 M4 => (if x3 = 0 then (k (-1000003) M4) else (w_X7_isBarred M4 o x1 a1 (fun x5 => (if x5 = 0 then (w_X7_begins N M4 o (fun M6 => (lp_X7_load_49 o x1 (fun (M9 : jM) => (w_X7_takesAll N M9 o x1 (fun x10 M11 => (lp_X7_load_84 o x1 M11 (fun (x14 : Int) => (w_X7_keeps N M11 o x14 (fun x15 M16 => (k x15 M16)))) N 0 6)))) N 2 M6))) else (k (-1000006) M4))))))))))))
set_option maxHeartbeats 4000000 in
set_option maxRecDepth 100000 in
theorem m_X7_load {l : Launch} {G : jG} {N : Nat} {M : jM} {o a1 a2 : Int} {k : Int → jM → Prop} (o_M : jOK M) (k_o : jK o = 8) (r_a1 : jR a1) (r_a2 : jR a2) (h : w_X7_load N M o a1 a2 k) : Met l yX7_load (wsG yX7_load cX7_load 7 (some .int)) (rmm 5 116) (jPc G M [.ref (jD G o), .int (jI a1), .int (jI a2)]) (qI G k) 0 0 (gA G) := by
  refine jm_start RX7 rfl (by decide) (Nat.le_of_ble_eq_true rfl) o_M ?_
  intro p e s m args below meth c ls C hr hlocks hl B
  have hl : lv_has ls 7 [(0, .ref (jD G o)), (1, .int (jI a1)), (2, .int (jI a2))] := hl
  unfold w_X7_load at h
  refine lv_aload_n C.1 C.2.1 dX7_load_0 rfl (lv_at hl 0 rfl) ?_
  refine lv_iload_n C.1 C.2.1 dX7_load_1 rfl (lv_at hl 2 rfl) ?_
  refine cl_X7_placeOf C hl.1 B q_749 ⟨Nat.le_of_ble_eq_true rfl, Nat.le_of_ble_eq_true rfl⟩ ⟨Nat.zero_le _, Nat.zero_le _⟩ (Nat.le_of_ble_eq_true rfl) k_o r_a2 h dX7_load_2 (fun x1 r_x1 _ _ h B => ?_)
  refine lv_istore_n (lv' := [(3, .int (jI x1)), (0, .ref (jD G o)), (1, .int (jI a1)), (2, .int (jI a2))]) C.1 C.2.1 dX7_load_5 rfl hl (by decide) rfl (fun ls hl => ?_)
  refine lv_aload_n C.1 C.2.1 dX7_load_6 rfl (lv_at hl 1 rfl) ?_
  refine lv_iload_n C.1 C.2.1 dX7_load_7 rfl (lv_at hl 2 rfl) ?_
  refine lv_iload_n C.1 C.2.1 dX7_load_8 rfl (lv_at hl 3 rfl) ?_
  refine cl_X7_errorOf C hl.1 B q_776 ⟨Nat.le_of_ble_eq_true rfl, Nat.le_of_ble_eq_true rfl⟩ ⟨Nat.zero_le _, Nat.zero_le _⟩ (Nat.le_of_ble_eq_true rfl) k_o r_a1 r_a2 h dX7_load_9 (fun x2 r_x2 _ _ h B => ?_)
  refine jr_if_ge (tgt := 18) C r_x2 h dX7_load_12 (by decide) (fun hc12 h => ?_) (fun hc12 h => ?_)
  · refine jr_ldc (n := -1000001) C q_753 (by decide) dX7_load_15 ?_
    exact jr_iret C B hr hlocks (jkc rfl) h dX7_load_17
  · refine lv_aload_n C.1 C.2.1 dX7_load_18 rfl (lv_at hl 1 rfl) ?_
    refine jr_ldc (n := -1000007) C q_892 (by decide) dX7_load_19 ?_
    refine cl_X7_takesAll C hl.1 B q_893 ⟨Nat.le_of_ble_eq_true rfl, Nat.le_of_ble_eq_true rfl⟩ ⟨Nat.zero_le _, Nat.zero_le _⟩ (Nat.le_of_ble_eq_true rfl) k_o (jkc rfl) h dX7_load_21 (fun x3 M4 z_x3 _ _ h B => ?_)
    have o_M4 := B.2.2
    refine jr_if_ne (tgt := 30) C (zR z_x3) h dX7_load_24 (by decide) (fun hc24 h => ?_) (fun hc24 h => ?_)
    · refine jr_ldc (n := -1000003) C q_921 (by decide) dX7_load_27 ?_
      exact jr_iret C B hr hlocks (jkc rfl) h dX7_load_29
    · refine lv_aload_n C.1 C.2.1 dX7_load_30 rfl (lv_at hl 1 rfl) ?_
      refine lv_iload_n C.1 C.2.1 dX7_load_31 rfl (lv_at hl 0 rfl) ?_
      refine lv_iload_n C.1 C.2.1 dX7_load_32 rfl (lv_at hl 2 rfl) ?_
      refine cl_X7_isBarred C hl.1 B q_783 ⟨Nat.le_of_ble_eq_true rfl, Nat.le_of_ble_eq_true rfl⟩ ⟨Nat.zero_le _, Nat.zero_le _⟩ (Nat.le_of_ble_eq_true rfl) k_o r_x1 r_a1 h dX7_load_33 (fun x5 z_x5 _ _ h B => ?_)
      refine jr_if_eq (tgt := 42) C (zR z_x5) h dX7_load_36 (by decide) (fun hc36 h => ?_) (fun hc36 h => ?_)
      · refine lv_aload_n C.1 C.2.1 dX7_load_42 rfl (lv_at hl 1 rfl) ?_
        refine cl_X7_begins C hl.1 B q_734 ⟨Nat.le_of_ble_eq_true rfl, Nat.le_of_ble_eq_true rfl⟩ ⟨Nat.zero_le _, Nat.zero_le _⟩ (Nat.le_of_ble_eq_true rfl) k_o h dX7_load_43 (fun M6 _ _ h B => ?_)
        have o_M6 := B.2.2
        refine jr_iconst C dX7_load_46 ?_
        refine lv_istore (lv' := [(4, .int (jI 2)), (3, .int (jI x1)), (0, .ref (jD G o)), (1, .int (jI a1)), (2, .int (jI a2))]) C.1 C.2.1 dX7_load_47 hl (by decide) rfl (fun ls hl => ?_)
        obtain ⟨kx49, hkx49, h⟩ : ∃ kx49 : jM → Prop, (∀ (M9 : jM) (H : Heap) (locs : List Loc) (ls : Array Slot), kx49 M9 → Hp G M9 s.heap H locs → lv_has ls 7 [(3, .int (jI x1)), (0, .ref (jD G o))] → W p l e (rmm 5 116) s m args below meth c H locs 0 0 (MQ below (qI G k) args s 0 0 (gA G)) (F0 m 70 ls [])) ∧ lp_X7_load_49 o x1 kx49 N 2 M6 := by
          refine ⟨_, ?_, h⟩
          intro M9 H locs ls h  B hl
          have o_M9 := B.2.2
          refine lv_aload_n C.1 C.2.1 dX7_load_70 rfl (lv_at hl 1 rfl) ?_
          refine lv_iload_n C.1 C.2.1 dX7_load_71 rfl (lv_at hl 0 rfl) ?_
          refine cl_X7_takesAll C hl.1 B q_893 ⟨Nat.le_of_ble_eq_true rfl, Nat.le_of_ble_eq_true rfl⟩ ⟨Nat.zero_le _, Nat.zero_le _⟩ (Nat.le_of_ble_eq_true rfl) k_o r_x1 h dX7_load_72 (fun x10 M11 z_x10 _ _ h B => ?_)
          have o_M11 := B.2.2
          refine lv_istore (lv' := [(4, .int (jI x10)), (3, .int (jI x1)), (0, .ref (jD G o))]) C.1 C.2.1 dX7_load_75 hl (by decide) rfl (fun ls hl => ?_)
          refine jr_iconst C dX7_load_77 ?_
          refine lv_istore (lv' := [(5, .int (jI 0)), (4, .int (jI x10)), (3, .int (jI x1)), (0, .ref (jD G o))]) C.1 C.2.1 dX7_load_78 hl (by decide) rfl (fun ls hl => ?_)
          refine jr_bipush C dX7_load_80 (by decide) ?_
          refine lv_istore (lv' := [(6, .int (jI 6)), (5, .int (jI 0)), (4, .int (jI x10)), (3, .int (jI x1)), (0, .ref (jD G o))]) C.1 C.2.1 dX7_load_82 hl (by decide) rfl (fun ls hl => ?_)
          obtain ⟨kx84, hkx84, h⟩ : ∃ kx84 : Int → Prop, (∀ (x14 : Int) (H : Heap) (locs : List Loc) (ls : Array Slot), kx84 x14 → jR x14 → Hp G M11 s.heap H locs → lv_has ls 7 [(5, .int (jI x14)), (0, .ref (jD G o))] → W p l e (rmm 5 116) s m args below meth c H locs 0 0 (MQ below (qI G k) args s 0 0 (gA G)) (F0 m 109 ls [])) ∧ lp_X7_load_84 o x1 M11 kx84 N 0 6 := by
            refine ⟨_, ?_, h⟩
            intro x14 H locs ls h r_x14 B hl
            refine lv_aload_n C.1 C.2.1 dX7_load_109 rfl (lv_at hl 1 rfl) ?_
            refine lv_iload C.1 C.2.1 dX7_load_110 (lv_at hl 0 rfl) ?_
            refine cl_X7_keeps C hl.1 B q_764 ⟨Nat.le_of_ble_eq_true rfl, Nat.le_of_ble_eq_true rfl⟩ ⟨Nat.zero_le _, Nat.zero_le _⟩ (Nat.le_of_ble_eq_true rfl) k_o r_x14 h dX7_load_112 (fun x15 M16 r_x15 _ _ h B => ?_)
            have o_M16 := B.2.2
            exact jr_iret C B hr hlocks r_x15 h dX7_load_115
          have hL84 : ∀ (n : Nat) (x12 : Int) (x13 : Int) (H : Heap) (locs : List Loc) (ls : Array Slot), lp_X7_load_84 o x1 M11 kx84 n x12 x13 → jR x12 → jR x13 → Hp G M11 s.heap H locs → lv_has ls 7 [(5, .int (jI x12)), (6, .int (jI x13)), (3, .int (jI x1)), (0, .ref (jD G o))] → W p l e (rmm 5 116) s m args below meth c H locs 0 0 (MQ below (qI G k) args s 0 0 (gA G)) (F0 m 84 ls []) := by
            intro n
            induction n with
            | zero => intro x12 x13 H locs ls h; exact (show False from h).elim
            | succ n ih84 =>
              intro x12 x13 H locs ls h r_x12 r_x13 B hl
              rw [lp_X7_load_84] at h
              refine lv_iload C.1 C.2.1 dX7_load_84 (lv_at hl 1 rfl) ?_
              refine jr_bipush C dX7_load_86 (by decide) ?_
              refine jr_icmp_ge (tgt := 109) C r_x13 (jkc rfl) h dX7_load_88 (by decide) (fun hc88 h => ?_) (fun hc88 h => ?_)
              · refine lv_iload C.1 C.2.1 dX7_load_91 (lv_at hl 0 rfl) ?_
                refine lv_aload_n C.1 C.2.1 dX7_load_93 rfl (lv_at hl 3 rfl) ?_
                refine lv_iload_n C.1 C.2.1 dX7_load_94 rfl (lv_at hl 2 rfl) ?_
                refine lv_iload C.1 C.2.1 dX7_load_95 (lv_at hl 1 rfl) ?_
                refine cl_X7_of C hl.1 B q_754 ⟨Nat.le_of_ble_eq_true rfl, Nat.le_of_ble_eq_true rfl⟩ ⟨Nat.zero_le _, Nat.zero_le _⟩ (Nat.le_of_ble_eq_true rfl) k_o r_x1 r_x13 h dX7_load_97 (fun x17 r_x17 _ _ h B => ?_)
                refine jr_iadd C dX7_load_100 ?_
                refine jr_nm h (jW_R _) (fun x18 h r_x18 => ?_)
                refine lv_istore (lv' := [(5, .int (jI x18)), (6, .int (jI x13)), (3, .int (jI x1)), (0, .ref (jD G o))]) C.1 C.2.1 dX7_load_101 hl (by decide) rfl (fun ls hl => ?_)
                refine jr_iinc (k := 1) (lv' := fun x19 => [(6, .int (jI x19)), (5, .int (jI x18)), (3, .int (jI x1)), (0, .ref (jD G o))]) C h hl rfl (by decide) (fun _ => rfl) dX7_load_103 (fun x19 h r_x19 ls hl => ?_)
                refine lv_goto (tgt := 84) C.1 C.2.1 dX7_load_106 (by decide) ?_
                exact ih84 _ _ _ _ _ h r_x18 r_x19 B (lv_sub hl [1, 0, 2, 3] rfl)
              · exact hkx84 _ _ _ _ h r_x12 B (lv_sub hl [0, 3] rfl)
          exact hL84 N _ _ _ _ _ h (jkc rfl) (jkc rfl) B (lv_sub hl [1, 0, 3, 4] rfl)
        have hL49 : ∀ (n : Nat) (x7 : Int) (M8 : jM) (H : Heap) (locs : List Loc) (ls : Array Slot), lp_X7_load_49 o x1 kx49 n x7 M8 → jR x7 → Hp G M8 s.heap H locs → lv_has ls 7 [(4, .int (jI x7)), (3, .int (jI x1)), (0, .ref (jD G o))] → W p l e (rmm 5 116) s m args below meth c H locs 0 0 (MQ below (qI G k) args s 0 0 (gA G)) (F0 m 49 ls []) := by
          intro n
          induction n with
          | zero => intro x7 M8 H locs ls h; exact (show False from h).elim
          | succ n ih49 =>
            intro x7 M8 H locs ls h r_x7 B hl
            have o_M8 := B.2.2
            rw [lp_X7_load_49] at h
            refine lv_iload C.1 C.2.1 dX7_load_49 (lv_at hl 0 rfl) ?_
            refine jr_bipush C dX7_load_51 (by decide) ?_
            refine jr_icmp_ge (tgt := 70) C r_x7 (jkc rfl) h dX7_load_53 (by decide) (fun hc53 h => ?_) (fun hc53 h => ?_)
            · refine lv_aload_n C.1 C.2.1 dX7_load_56 rfl (lv_at hl 2 rfl) ?_
              refine lv_iload_n C.1 C.2.1 dX7_load_57 rfl (lv_at hl 1 rfl) ?_
              refine lv_iload C.1 C.2.1 dX7_load_58 (lv_at hl 0 rfl) ?_
              refine jr_iconst C dX7_load_60 ?_
              refine cl_X7_lays C hl.1 B q_760 ⟨Nat.le_of_ble_eq_true rfl, Nat.le_of_ble_eq_true rfl⟩ ⟨Nat.zero_le _, Nat.zero_le _⟩ (Nat.le_of_ble_eq_true rfl) k_o r_x1 r_x7 (jkc rfl) h dX7_load_61 (fun M20 _ _ h B => ?_)
              have o_M20 := B.2.2
              refine jr_iinc (k := 0) (lv' := fun x21 => [(4, .int (jI x21)), (3, .int (jI x1)), (0, .ref (jD G o))]) C h hl rfl (by decide) (fun _ => rfl) dX7_load_64 (fun x21 h r_x21 ls hl => ?_)
              refine lv_goto (tgt := 49) C.1 C.2.1 dX7_load_67 (by decide) ?_
              exact ih49 _ _ _ _ _ h r_x21 B (lv_sub hl [0, 1, 2] rfl)
            · exact hkx49 _ _ _ _ h  B (lv_sub hl [1, 2] rfl)
        exact hL49 N _ _ _ _ _ h (jkc rfl) B (lv_sub hl [0, 1, 2] rfl)
      · refine jr_ldc (n := -1000006) C q_787 (by decide) dX7_load_39 ?_
        exact jr_iret C B hr hlocks (jkc rfl) h dX7_load_41
theorem cl_X7_load {p : Program} {l : Launch} {e : Env} {R : Room} {s : State} {m : MethodId} {args : Array Value} {below : List Frame} {meth : Method} {c : Code} {H : Heap} {locs : List Loc} {cells slots : Nat} {Q : State → Prop} {cc : ByteArray} {nL : Nat} {own : String} {G : jG} {H0 : Heap} {pc idx : Nat} {ls : Array Slot} {rest : List Value} {N : Nat} {M : jM} {o a1 a2 : Int} {k : Int → jM → Prop} (C : Cx G p s args m c cc nL own) (hl : ls.size = nL) (B : Hp G M H0 H locs) (q1 : Cond.methodLink own idx yX7_load ∈ tb) (hR : (rmm 5 116).frames + 1 ≤ R.frames ∧ 8 + (7 + 11) + (rmm 5 116).locals ≤ R.locals) (hcs : cells ≤ R.cells ∧ slots ≤ R.slots) (hW : (rest.map fun v => v.category).sum ≤ 8) (k_o : jK o = 8) (r_a1 : jR a1) (r_a2 : jR a2) (h : w_X7_load N M o a1 a2 k) (hdg : decode cc pc = .ok (.invokevirtual idx, 3)) (kk : ∀ (r : Int) (M' : jM), jR r → ∀ (H1 : Heap) (locs1 : List Loc), k r M' → Hp G M' H0 H1 locs1 → W p l e R s m args below meth c H1 locs1 cells slots Q (F0 m (pc + 3) ls (.int (jI r) :: rest))) : W p l e R s m args below meth c H locs cells slots Q (F0 m pc ls (.int (jI a2) :: .int (jI a1) :: .ref (jD G o) :: rest)) :=
  jr_callI B (jr_runV (o := o) (As := [.int (jI a1), .int (jI a2)]) (n := 2) C hl B (m_X7_load B.2.2 k_o r_a1 r_a2 h) (jE8 k_o) (by omega) rfl q1 q_918 q_919 q_920 q_8 ⟨by decide, by decide, by decide +kernel⟩ rfl ⟨rfl, rfl⟩ hR hcs rfl hW hdg) (fun r M' H1 locs1 hr hk B1 => kk r M' hr H1 locs1 hk B1)
def w_X7_writes (M : jM) (o : Int) (a1 : Int) (k : jM → Prop) : Prop := (jB (M o 7) 500 ∧ jL (jU M (o + 5) (M o 7) a1) (fun M1 => (jL (jU M1 o 7 (jW ((M1 o 7) + 1))) (fun M2 => (k M2)))))
set_option maxHeartbeats 4000000 in
set_option maxRecDepth 100000 in
theorem m_X7_writes {l : Launch} {G : jG} {M : jM} {o a1 : Int} {k : jM → Prop} (o_M : jOK M) (k_o : jK o = 8) (r_a1 : jR a1) (h : w_X7_writes M o a1 k) : Met l yX7_writes (wsG yX7_writes cX7_writes 2 none) (rmm 0 0) (jPc G M [.ref (jD G o), .int (jI a1)]) (qV G k) 0 0 (gA G) := by
  refine jm_start RX7 rfl (by decide) (Nat.le_of_ble_eq_true rfl) o_M ?_
  intro p e s m args below meth c ls C hr hlocks hl B
  have hl : lv_has ls 2 [(0, .ref (jD G o)), (1, .int (jI a1))] := hl
  unfold w_X7_writes at h
  refine lv_aload_n C.1 C.2.1 dX7_writes_0 rfl (lv_at hl 0 rfl) ?_
  refine gf_X7_22 C B k_o dX7_writes_1 ?_
  refine lv_aload_n C.1 C.2.1 dX7_writes_4 rfl (lv_at hl 0 rfl) ?_
  refine gf_X7_181 C B k_o dX7_writes_5 ?_
  refine lv_iload_n C.1 C.2.1 dX7_writes_8 rfl (lv_at hl 1 rfl) ?_
  refine jr_iast C B 500 (jk1 (ko_X7_6 k_o) rfl) (jk2 (ko_X7_6 k_o) rfl) (o_M o 7).1 r_a1 h dX7_writes_9 (fun M1 _ _ h B => ?_)
  have o_M1 := B.2.2
  refine lv_aload_n C.1 C.2.1 dX7_writes_10 rfl (lv_at hl 0 rfl) ?_
  refine lv_dup C.1 C.2.1 dX7_writes_11 rfl ?_
  refine gf_X7_181 C B k_o dX7_writes_12 ?_
  refine jr_iconst C dX7_writes_15 ?_
  refine jr_iadd C dX7_writes_16 ?_
  refine pf_X7_181 C B k_o (jW_R _) h dX7_writes_17 (fun M2 _ _ h B => ?_)
  have o_M2 := B.2.2
  exact jr_vret C B hr hlocks h dX7_writes_20
theorem cl_X7_writes {p : Program} {l : Launch} {e : Env} {R : Room} {s : State} {m : MethodId} {args : Array Value} {below : List Frame} {meth : Method} {c : Code} {H : Heap} {locs : List Loc} {cells slots : Nat} {Q : State → Prop} {cc : ByteArray} {nL : Nat} {own : String} {G : jG} {H0 : Heap} {pc idx : Nat} {ls : Array Slot} {rest : List Value} {M : jM} {o a1 : Int} {k : jM → Prop} (C : Cx G p s args m c cc nL own) (hl : ls.size = nL) (B : Hp G M H0 H locs) (q1 : Cond.methodLink own idx yX7_writes ∈ tb) (hR : (rmm 0 0).frames + 1 ≤ R.frames ∧ 8 + (2 + 11) + (rmm 0 0).locals ≤ R.locals) (hcs : cells ≤ R.cells ∧ slots ≤ R.slots) (hW : (rest.map fun v => v.category).sum ≤ 8) (k_o : jK o = 8) (r_a1 : jR a1) (h : w_X7_writes M o a1 k) (hdg : decode cc pc = .ok (.invokevirtual idx, 3)) (kk : ∀ (M' : jM) (H1 : Heap) (locs1 : List Loc), k M' → Hp G M' H0 H1 locs1 → W p l e R s m args below meth c H1 locs1 cells slots Q (F0 m (pc + 3) ls rest)) : W p l e R s m args below meth c H locs cells slots Q (F0 m pc ls (.int (jI a1) :: .ref (jD G o) :: rest)) :=
  jr_callV B (jr_runV (o := o) (As := [.int (jI a1)]) (n := 1) C hl B (m_X7_writes B.2.2 k_o r_a1 h) (jE8 k_o) (by omega) rfl q1 q_928 qs_52 q_929 q_8 ⟨by decide, by decide, by decide +kernel⟩ rfl ⟨rfl, rfl⟩ hR hcs rfl hW hdg) (fun M' H1 locs1 hk B1 => kk M' H1 locs1 hk B1)
def w_X7_writesNumber (M : jM) (o : Int) (a1 : Int) (k : jM → Prop) : Prop := (jL (fun (x1 : Int) => (jL (fun (M4 : jM) => (jL (fun (M6 : jM) => (if x1 ≤ 9 then (w_X7_writes M6 o (jW (48 + (jRem x1 10))) (fun M7 => (k M7))) else (w_X7_writes M6 o (jW (48 + (jRem (jDiv x1 10) 10))) (fun M8 => (w_X7_writes M8 o (jW (48 + (jRem x1 10))) (fun M9 => (k M9))))))) (fun j24_5 => (if x1 ≤ 99 then (j24_5 M4) else (w_X7_writes M4 o (jW (48 + (jDiv x1 100))) (fun M10 => (j24_5 M10))))))) (fun j12_3 => (if a1 < 0 then (w_X7_writes M o 45 (fun M11 => (j12_3 M11))) else (j12_3 M))))) (fun j1_2 => (if a1 < 0 then (j1_2 (jW (-a1))) else (j1_2 a1))))
set_option maxHeartbeats 4000000 in
set_option maxRecDepth 100000 in
theorem m_X7_writesNumber {l : Launch} {G : jG} {M : jM} {o a1 : Int} {k : jM → Prop} (o_M : jOK M) (k_o : jK o = 8) (r_a1 : jR a1) (h : w_X7_writesNumber M o a1 k) : Met l yX7_writesNumber (wsG yX7_writesNumber cX7_writesNumber 3 none) (rmm 1 21) (jPc G M [.ref (jD G o), .int (jI a1)]) (qV G k) 0 0 (gA G) := by
  refine jm_start RX7 rfl (by decide) (Nat.le_of_ble_eq_true rfl) o_M ?_
  intro p e s m args below meth c ls C hr hlocks hl B
  have hl : lv_has ls 3 [(0, .ref (jD G o)), (1, .int (jI a1))] := hl
  unfold w_X7_writesNumber at h
  refine lv_iload_n C.1 C.2.1 dX7_writesNumber_0 rfl (lv_at hl 1 rfl) ?_
  obtain ⟨j1_2, hj1_2, h⟩ := jx_join (P := fun j1_2 : Int → Prop => ∀ (x1 : Int) (H : Heap) (locs : List Loc) (ls : Array Slot), j1_2 x1 → jR x1 → Hp G M s.heap H locs → lv_has ls 3 [(0, .ref (jD G o)), (1, .int (jI a1))] → W p l e (rmm 1 21) s m args below meth c H locs 0 0 (MQ below (qV G k) args s 0 0 (gA G)) (F0 m 10 ls [.int (jI x1)])) h (by
    intro x1 H locs ls h r_x1 B hl
    refine lv_istore_n (lv' := [(2, .int (jI x1)), (0, .ref (jD G o)), (1, .int (jI a1))]) C.1 C.2.1 dX7_writesNumber_10 rfl hl (by decide) rfl (fun ls hl => ?_)
    refine lv_iload_n C.1 C.2.1 dX7_writesNumber_11 rfl (lv_at hl 2 rfl) ?_
    obtain ⟨j12_3, hj12_3, h⟩ := jx_join (P := fun j12_3 : jM → Prop => ∀ (M4 : jM) (H : Heap) (locs : List Loc) (ls : Array Slot), j12_3 M4 → Hp G M4 s.heap H locs → lv_has ls 3 [(2, .int (jI x1)), (0, .ref (jD G o))] → W p l e (rmm 1 21) s m args below meth c H locs 0 0 (MQ below (qV G k) args s 0 0 (gA G)) (F0 m 21 ls [])) h (by
      intro M4 H locs ls h  B hl
      have o_M4 := B.2.2
      refine lv_iload_n C.1 C.2.1 dX7_writesNumber_21 rfl (lv_at hl 0 rfl) ?_
      refine jr_bipush C dX7_writesNumber_22 (by decide) ?_
      obtain ⟨j24_5, hj24_5, h⟩ := jx_join (P := fun j24_5 : jM → Prop => ∀ (M6 : jM) (H : Heap) (locs : List Loc) (ls : Array Slot), j24_5 M6 → Hp G M6 s.heap H locs → lv_has ls 3 [(2, .int (jI x1)), (0, .ref (jD G o))] → W p l e (rmm 1 21) s m args below meth c H locs 0 0 (MQ below (qV G k) args s 0 0 (gA G)) (F0 m 38 ls [])) h (by
        intro M6 H locs ls h  B hl
        have o_M6 := B.2.2
        refine lv_iload_n C.1 C.2.1 dX7_writesNumber_38 rfl (lv_at hl 0 rfl) ?_
        refine jr_bipush C dX7_writesNumber_39 (by decide) ?_
        refine jr_icmp_le (tgt := 58) C r_x1 (jkc rfl) h dX7_writesNumber_41 (by decide) (fun hc41 h => ?_) (fun hc41 h => ?_)
        · refine lv_aload_n C.1 C.2.1 dX7_writesNumber_58 rfl (lv_at hl 1 rfl) ?_
          refine jr_bipush C dX7_writesNumber_59 (by decide) ?_
          refine lv_iload_n C.1 C.2.1 dX7_writesNumber_61 rfl (lv_at hl 0 rfl) ?_
          refine jr_bipush C dX7_writesNumber_62 (by decide) ?_
          refine jr_irem C (by decide) dX7_writesNumber_64 ?_
          refine jr_iadd C dX7_writesNumber_65 ?_
          refine cl_X7_writes C hl.1 B q_926 ⟨Nat.le_of_ble_eq_true rfl, Nat.le_of_ble_eq_true rfl⟩ ⟨Nat.zero_le _, Nat.zero_le _⟩ (Nat.le_of_ble_eq_true rfl) k_o (jW_R _) h dX7_writesNumber_66 (fun M7 _ _ h B => ?_)
          have o_M7 := B.2.2
          exact jr_vret C B hr hlocks h dX7_writesNumber_69
        · refine lv_aload_n C.1 C.2.1 dX7_writesNumber_44 rfl (lv_at hl 1 rfl) ?_
          refine jr_bipush C dX7_writesNumber_45 (by decide) ?_
          refine lv_iload_n C.1 C.2.1 dX7_writesNumber_47 rfl (lv_at hl 0 rfl) ?_
          refine jr_bipush C dX7_writesNumber_48 (by decide) ?_
          refine jr_idiv C (by decide) dX7_writesNumber_50 ?_
          refine jr_bipush C dX7_writesNumber_51 (by decide) ?_
          refine jr_irem C (by decide) dX7_writesNumber_53 ?_
          refine jr_iadd C dX7_writesNumber_54 ?_
          refine cl_X7_writes C hl.1 B q_926 ⟨Nat.le_of_ble_eq_true rfl, Nat.le_of_ble_eq_true rfl⟩ ⟨Nat.zero_le _, Nat.zero_le _⟩ (Nat.le_of_ble_eq_true rfl) k_o (jW_R _) h dX7_writesNumber_55 (fun M8 _ _ h B => ?_)
          have o_M8 := B.2.2
          refine lv_aload_n C.1 C.2.1 dX7_writesNumber_58 rfl (lv_at hl 1 rfl) ?_
          refine jr_bipush C dX7_writesNumber_59 (by decide) ?_
          refine lv_iload_n C.1 C.2.1 dX7_writesNumber_61 rfl (lv_at hl 0 rfl) ?_
          refine jr_bipush C dX7_writesNumber_62 (by decide) ?_
          refine jr_irem C (by decide) dX7_writesNumber_64 ?_
          refine jr_iadd C dX7_writesNumber_65 ?_
          refine cl_X7_writes C hl.1 B q_926 ⟨Nat.le_of_ble_eq_true rfl, Nat.le_of_ble_eq_true rfl⟩ ⟨Nat.zero_le _, Nat.zero_le _⟩ (Nat.le_of_ble_eq_true rfl) k_o (jW_R _) h dX7_writesNumber_66 (fun M9 _ _ h B => ?_)
          have o_M9 := B.2.2
          exact jr_vret C B hr hlocks h dX7_writesNumber_69)
      refine jr_icmp_le (tgt := 38) C r_x1 (jkc rfl) h dX7_writesNumber_24 (by decide) (fun hc24 h => ?_) (fun hc24 h => ?_)
      · exact hj24_5 _ _ _ _ h  B (lv_sub hl [0, 1] rfl)
      · refine lv_aload_n C.1 C.2.1 dX7_writesNumber_27 rfl (lv_at hl 1 rfl) ?_
        refine jr_bipush C dX7_writesNumber_28 (by decide) ?_
        refine lv_iload_n C.1 C.2.1 dX7_writesNumber_30 rfl (lv_at hl 0 rfl) ?_
        refine jr_bipush C dX7_writesNumber_31 (by decide) ?_
        refine jr_idiv C (by decide) dX7_writesNumber_33 ?_
        refine jr_iadd C dX7_writesNumber_34 ?_
        refine cl_X7_writes C hl.1 B q_926 ⟨Nat.le_of_ble_eq_true rfl, Nat.le_of_ble_eq_true rfl⟩ ⟨Nat.zero_le _, Nat.zero_le _⟩ (Nat.le_of_ble_eq_true rfl) k_o (jW_R _) h dX7_writesNumber_35 (fun M10 _ _ h B => ?_)
        have o_M10 := B.2.2
        exact hj24_5 _ _ _ _ h  B (lv_sub hl [0, 1] rfl))
    refine jr_if_ge (tgt := 21) C r_a1 h dX7_writesNumber_12 (by decide) (fun hc12 h => ?_) (fun hc12 h => ?_)
    · refine lv_aload_n C.1 C.2.1 dX7_writesNumber_15 rfl (lv_at hl 1 rfl) ?_
      refine jr_bipush C dX7_writesNumber_16 (by decide) ?_
      refine cl_X7_writes C hl.1 B q_926 ⟨Nat.le_of_ble_eq_true rfl, Nat.le_of_ble_eq_true rfl⟩ ⟨Nat.zero_le _, Nat.zero_le _⟩ (Nat.le_of_ble_eq_true rfl) k_o (jkc rfl) h dX7_writesNumber_18 (fun M11 _ _ h B => ?_)
      have o_M11 := B.2.2
      exact hj12_3 _ _ _ _ h  B (lv_sub hl [0, 1] rfl)
    · exact hj12_3 _ _ _ _ h  B (lv_sub hl [0, 1] rfl))
  refine jr_if_ge (tgt := 9) C r_a1 h dX7_writesNumber_1 (by decide) (fun hc1 h => ?_) (fun hc1 h => ?_)
  · refine lv_iload_n C.1 C.2.1 dX7_writesNumber_4 rfl (lv_at hl 1 rfl) ?_
    refine jr_ineg C dX7_writesNumber_5 ?_
    refine lv_goto (tgt := 10) C.1 C.2.1 dX7_writesNumber_6 (by decide) ?_
    exact hj1_2 _ _ _ _ h (jW_R _) B (lv_sub hl [0, 1] rfl)
  · refine lv_iload_n C.1 C.2.1 dX7_writesNumber_9 rfl (lv_at hl 1 rfl) ?_
    exact hj1_2 _ _ _ _ h r_a1 B (lv_sub hl [0, 1] rfl)
theorem cl_X7_writesNumber {p : Program} {l : Launch} {e : Env} {R : Room} {s : State} {m : MethodId} {args : Array Value} {below : List Frame} {meth : Method} {c : Code} {H : Heap} {locs : List Loc} {cells slots : Nat} {Q : State → Prop} {cc : ByteArray} {nL : Nat} {own : String} {G : jG} {H0 : Heap} {pc idx : Nat} {ls : Array Slot} {rest : List Value} {M : jM} {o a1 : Int} {k : jM → Prop} (C : Cx G p s args m c cc nL own) (hl : ls.size = nL) (B : Hp G M H0 H locs) (q1 : Cond.methodLink own idx yX7_writesNumber ∈ tb) (hR : (rmm 1 21).frames + 1 ≤ R.frames ∧ 8 + (3 + 11) + (rmm 1 21).locals ≤ R.locals) (hcs : cells ≤ R.cells ∧ slots ≤ R.slots) (hW : (rest.map fun v => v.category).sum ≤ 8) (k_o : jK o = 8) (r_a1 : jR a1) (h : w_X7_writesNumber M o a1 k) (hdg : decode cc pc = .ok (.invokevirtual idx, 3)) (kk : ∀ (M' : jM) (H1 : Heap) (locs1 : List Loc), k M' → Hp G M' H0 H1 locs1 → W p l e R s m args below meth c H1 locs1 cells slots Q (F0 m (pc + 3) ls rest)) : W p l e R s m args below meth c H locs cells slots Q (F0 m pc ls (.int (jI a1) :: .ref (jD G o) :: rest)) :=
  jr_callV B (jr_runV (o := o) (As := [.int (jI a1)]) (n := 1) C hl B (m_X7_writesNumber B.2.2 k_o r_a1 h) (jE8 k_o) (by omega) rfl q1 q_936 qs_54 q_937 q_8 ⟨by decide, by decide, by decide +kernel⟩ rfl ⟨rfl, rfl⟩ hR hcs rfl hW hdg) (fun M' H1 locs1 hk B1 => kk M' H1 locs1 hk B1)
def lp_X7_writesField_25 (o : Int) (a1 : Int) (a2 : Int) (x1 : Int) (kx25 : jM → Prop) : Nat → Int → jM → Prop
  | 0, _, _ => False
  | n + 1, x7, M8 => (w_X7_subsOf M8 o a1 a2 x1 (fun x11 => (if x7 < x11 then (if x7 ≤ 0 then (w_X7_numberOf M8 o a1 a2 x1 x7 (fun x12 => (w_X7_writesNumber M8 o x12 (fun M13 => (jL (jW (x7 + 1)) (fun x14 => (lp_X7_writesField_25 o a1 a2 x1 kx25 n x14 M13))))))) else (w_X7_writes M8 o 47 (fun M15 => (w_X7_numberOf M15 o a1 a2 x1 x7 (fun x16 => (w_X7_writesNumber M15 o x16 (fun M17 => (jL (jW (x7 + 1)) (fun x18 => (lp_X7_writesField_25 o a1 a2 x1 kx25 n x18 M17)))))))))) else (kx25 M8))))
def lp_X7_writesField_2 (N : Nat) (o : Int) (a1 : Int) (a2 : Int) (kx2 : jM → Prop) : Nat → Int → jM → Prop
  | 0, _, _ => False
  | n + 1, x1, M2 => (w_X7_valuesOf M2 o a1 a2 (fun x4 => (if x1 < x4 then (jL (fun (M6 : jM) => (lp_X7_writesField_25 o a1 a2 x1 (fun (M9 : jM) => (jL (jW (x1 + 1)) (fun x10 => (lp_X7_writesField_2 N o a1 a2 kx2 n x10 M9)))) N 0 M6)) (fun j13_5 => (if x1 ≤ 0 then (j13_5 M2) else (w_X7_writes M2 o 93 (fun M19 => (j13_5 M19)))))) else (kx2 M2))))
def w_X7_writesField (N : Nat) (M : jM) (o : Int) (a1 : Int) (a2 : Int) (k : jM → Prop) : Prop := (lp_X7_writesField_2 N o a1 a2 (fun (M3 : jM) => (k M3)) N 0 M)
set_option maxHeartbeats 4000000 in
set_option maxRecDepth 100000 in
theorem m_X7_writesField {l : Launch} {G : jG} {N : Nat} {M : jM} {o a1 a2 : Int} {k : jM → Prop} (o_M : jOK M) (k_o : jK o = 8) (r_a1 : jR a1) (r_a2 : jR a2) (h : w_X7_writesField N M o a1 a2 k) : Met l yX7_writesField (wsG yX7_writesField cX7_writesField 5 none) (rmm 2 46) (jPc G M [.ref (jD G o), .int (jI a1), .int (jI a2)]) (qV G k) 0 0 (gA G) := by
  refine jm_start RX7 rfl (by decide) (Nat.le_of_ble_eq_true rfl) o_M ?_
  intro p e s m args below meth c ls C hr hlocks hl B
  have hl : lv_has ls 5 [(0, .ref (jD G o)), (1, .int (jI a1)), (2, .int (jI a2))] := hl
  unfold w_X7_writesField at h
  refine jr_iconst C dX7_writesField_0 ?_
  refine lv_istore_n (lv' := [(3, .int (jI 0)), (0, .ref (jD G o)), (1, .int (jI a1)), (2, .int (jI a2))]) C.1 C.2.1 dX7_writesField_1 rfl hl (by decide) rfl (fun ls hl => ?_)
  obtain ⟨kx2, hkx2, h⟩ : ∃ kx2 : jM → Prop, (∀ (M3 : jM) (H : Heap) (locs : List Loc) (ls : Array Slot), kx2 M3 → Hp G M3 s.heap H locs → lv_has ls 5 [] → W p l e (rmm 2 46) s m args below meth c H locs 0 0 (MQ below (qV G k) args s 0 0 (gA G)) (F0 m 73 ls [])) ∧ lp_X7_writesField_2 N o a1 a2 kx2 N 0 M := by
    refine ⟨_, ?_, h⟩
    intro M3 H locs ls h  B hl
    have o_M3 := B.2.2
    exact jr_vret C B hr hlocks h dX7_writesField_73
  have hL2 : ∀ (n : Nat) (x1 : Int) (M2 : jM) (H : Heap) (locs : List Loc) (ls : Array Slot), lp_X7_writesField_2 N o a1 a2 kx2 n x1 M2 → jR x1 → Hp G M2 s.heap H locs → lv_has ls 5 [(3, .int (jI x1)), (0, .ref (jD G o)), (1, .int (jI a1)), (2, .int (jI a2))] → W p l e (rmm 2 46) s m args below meth c H locs 0 0 (MQ below (qV G k) args s 0 0 (gA G)) (F0 m 2 ls []) := by
    intro n
    induction n with
    | zero => intro x1 M2 H locs ls h; exact (show False from h).elim
    | succ n ih2 =>
      intro x1 M2 H locs ls h r_x1 B hl
      have o_M2 := B.2.2
      rw [lp_X7_writesField_2] at h
      refine lv_iload_n C.1 C.2.1 dX7_writesField_2 rfl (lv_at hl 0 rfl) ?_
      refine lv_aload_n C.1 C.2.1 dX7_writesField_3 rfl (lv_at hl 1 rfl) ?_
      refine lv_iload_n C.1 C.2.1 dX7_writesField_4 rfl (lv_at hl 2 rfl) ?_
      refine lv_iload_n C.1 C.2.1 dX7_writesField_5 rfl (lv_at hl 3 rfl) ?_
      refine cl_X7_valuesOf C hl.1 B q_815 ⟨Nat.le_of_ble_eq_true rfl, Nat.le_of_ble_eq_true rfl⟩ ⟨Nat.zero_le _, Nat.zero_le _⟩ (Nat.le_of_ble_eq_true rfl) k_o r_a1 r_a2 h dX7_writesField_6 (fun x4 r_x4 _ _ h B => ?_)
      refine jr_icmp_ge (tgt := 73) C r_x1 r_x4 h dX7_writesField_9 (by decide) (fun hc9 h => ?_) (fun hc9 h => ?_)
      · refine lv_iload_n C.1 C.2.1 dX7_writesField_12 rfl (lv_at hl 0 rfl) ?_
        obtain ⟨j13_5, hj13_5, h⟩ := jx_join (P := fun j13_5 : jM → Prop => ∀ (M6 : jM) (H : Heap) (locs : List Loc) (ls : Array Slot), j13_5 M6 → Hp G M6 s.heap H locs → lv_has ls 5 [(3, .int (jI x1)), (0, .ref (jD G o)), (1, .int (jI a1)), (2, .int (jI a2))] → W p l e (rmm 2 46) s m args below meth c H locs 0 0 (MQ below (qV G k) args s 0 0 (gA G)) (F0 m 22 ls [])) h (by
          intro M6 H locs ls h  B hl
          have o_M6 := B.2.2
          refine jr_iconst C dX7_writesField_22 ?_
          refine lv_istore (lv' := [(4, .int (jI 0)), (3, .int (jI x1)), (0, .ref (jD G o)), (1, .int (jI a1)), (2, .int (jI a2))]) C.1 C.2.1 dX7_writesField_23 hl (by decide) rfl (fun ls hl => ?_)
          obtain ⟨kx25, hkx25, h⟩ : ∃ kx25 : jM → Prop, (∀ (M9 : jM) (H : Heap) (locs : List Loc) (ls : Array Slot), kx25 M9 → Hp G M9 s.heap H locs → lv_has ls 5 [(3, .int (jI x1)), (0, .ref (jD G o)), (1, .int (jI a1)), (2, .int (jI a2))] → W p l e (rmm 2 46) s m args below meth c H locs 0 0 (MQ below (qV G k) args s 0 0 (gA G)) (F0 m 67 ls [])) ∧ lp_X7_writesField_25 o a1 a2 x1 kx25 N 0 M6 := by
            refine ⟨_, ?_, h⟩
            intro M9 H locs ls h  B hl
            have o_M9 := B.2.2
            refine jr_iinc (k := 0) (lv' := fun x10 => [(3, .int (jI x10)), (0, .ref (jD G o)), (1, .int (jI a1)), (2, .int (jI a2))]) C h hl rfl (by decide) (fun _ => rfl) dX7_writesField_67 (fun x10 h r_x10 ls hl => ?_)
            refine lv_goto (tgt := 2) C.1 C.2.1 dX7_writesField_70 (by decide) ?_
            exact ih2 _ _ _ _ _ h r_x10 B (lv_sub hl [0, 1, 2, 3] rfl)
          have hL25 : ∀ (n : Nat) (x7 : Int) (M8 : jM) (H : Heap) (locs : List Loc) (ls : Array Slot), lp_X7_writesField_25 o a1 a2 x1 kx25 n x7 M8 → jR x7 → Hp G M8 s.heap H locs → lv_has ls 5 [(4, .int (jI x7)), (3, .int (jI x1)), (0, .ref (jD G o)), (1, .int (jI a1)), (2, .int (jI a2))] → W p l e (rmm 2 46) s m args below meth c H locs 0 0 (MQ below (qV G k) args s 0 0 (gA G)) (F0 m 25 ls []) := by
            intro n
            induction n with
            | zero => intro x7 M8 H locs ls h; exact (show False from h).elim
            | succ n ih25 =>
              intro x7 M8 H locs ls h r_x7 B hl
              have o_M8 := B.2.2
              rw [lp_X7_writesField_25] at h
              refine lv_iload C.1 C.2.1 dX7_writesField_25 (lv_at hl 0 rfl) ?_
              refine lv_aload_n C.1 C.2.1 dX7_writesField_27 rfl (lv_at hl 2 rfl) ?_
              refine lv_iload_n C.1 C.2.1 dX7_writesField_28 rfl (lv_at hl 3 rfl) ?_
              refine lv_iload_n C.1 C.2.1 dX7_writesField_29 rfl (lv_at hl 4 rfl) ?_
              refine lv_iload_n C.1 C.2.1 dX7_writesField_30 rfl (lv_at hl 1 rfl) ?_
              refine cl_X7_subsOf C hl.1 B q_823 ⟨Nat.le_of_ble_eq_true rfl, Nat.le_of_ble_eq_true rfl⟩ ⟨Nat.zero_le _, Nat.zero_le _⟩ (Nat.le_of_ble_eq_true rfl) k_o r_a1 r_a2 r_x1 h dX7_writesField_31 (fun x11 r_x11 _ _ h B => ?_)
              refine jr_icmp_ge (tgt := 67) C r_x7 r_x11 h dX7_writesField_34 (by decide) (fun hc34 h => ?_) (fun hc34 h => ?_)
              · refine lv_iload C.1 C.2.1 dX7_writesField_37 (lv_at hl 0 rfl) ?_
                refine jr_if_le (tgt := 48) C r_x7 h dX7_writesField_39 (by decide) (fun hc39 h => ?_) (fun hc39 h => ?_)
                · refine lv_aload_n C.1 C.2.1 dX7_writesField_48 rfl (lv_at hl 2 rfl) ?_
                  refine lv_aload_n C.1 C.2.1 dX7_writesField_49 rfl (lv_at hl 2 rfl) ?_
                  refine lv_iload_n C.1 C.2.1 dX7_writesField_50 rfl (lv_at hl 3 rfl) ?_
                  refine lv_iload_n C.1 C.2.1 dX7_writesField_51 rfl (lv_at hl 4 rfl) ?_
                  refine lv_iload_n C.1 C.2.1 dX7_writesField_52 rfl (lv_at hl 1 rfl) ?_
                  refine lv_iload C.1 C.2.1 dX7_writesField_53 (lv_at hl 0 rfl) ?_
                  refine cl_X7_numberOf C hl.1 B q_844 ⟨Nat.le_of_ble_eq_true rfl, Nat.le_of_ble_eq_true rfl⟩ ⟨Nat.zero_le _, Nat.zero_le _⟩ (Nat.le_of_ble_eq_true rfl) k_o r_a1 r_a2 r_x1 r_x7 h dX7_writesField_55 (fun x12 r_x12 _ _ h B => ?_)
                  refine cl_X7_writesNumber C hl.1 B q_934 ⟨Nat.le_of_ble_eq_true rfl, Nat.le_of_ble_eq_true rfl⟩ ⟨Nat.zero_le _, Nat.zero_le _⟩ (Nat.le_of_ble_eq_true rfl) k_o r_x12 h dX7_writesField_58 (fun M13 _ _ h B => ?_)
                  have o_M13 := B.2.2
                  refine jr_iinc (k := 0) (lv' := fun x14 => [(4, .int (jI x14)), (3, .int (jI x1)), (0, .ref (jD G o)), (1, .int (jI a1)), (2, .int (jI a2))]) C h hl rfl (by decide) (fun _ => rfl) dX7_writesField_61 (fun x14 h r_x14 ls hl => ?_)
                  refine lv_goto (tgt := 25) C.1 C.2.1 dX7_writesField_64 (by decide) ?_
                  exact ih25 _ _ _ _ _ h r_x14 B (lv_sub hl [0, 1, 2, 3, 4] rfl)
                · refine lv_aload_n C.1 C.2.1 dX7_writesField_42 rfl (lv_at hl 2 rfl) ?_
                  refine jr_bipush C dX7_writesField_43 (by decide) ?_
                  refine cl_X7_writes C hl.1 B q_926 ⟨Nat.le_of_ble_eq_true rfl, Nat.le_of_ble_eq_true rfl⟩ ⟨Nat.zero_le _, Nat.zero_le _⟩ (Nat.le_of_ble_eq_true rfl) k_o (jkc rfl) h dX7_writesField_45 (fun M15 _ _ h B => ?_)
                  have o_M15 := B.2.2
                  refine lv_aload_n C.1 C.2.1 dX7_writesField_48 rfl (lv_at hl 2 rfl) ?_
                  refine lv_aload_n C.1 C.2.1 dX7_writesField_49 rfl (lv_at hl 2 rfl) ?_
                  refine lv_iload_n C.1 C.2.1 dX7_writesField_50 rfl (lv_at hl 3 rfl) ?_
                  refine lv_iload_n C.1 C.2.1 dX7_writesField_51 rfl (lv_at hl 4 rfl) ?_
                  refine lv_iload_n C.1 C.2.1 dX7_writesField_52 rfl (lv_at hl 1 rfl) ?_
                  refine lv_iload C.1 C.2.1 dX7_writesField_53 (lv_at hl 0 rfl) ?_
                  refine cl_X7_numberOf C hl.1 B q_844 ⟨Nat.le_of_ble_eq_true rfl, Nat.le_of_ble_eq_true rfl⟩ ⟨Nat.zero_le _, Nat.zero_le _⟩ (Nat.le_of_ble_eq_true rfl) k_o r_a1 r_a2 r_x1 r_x7 h dX7_writesField_55 (fun x16 r_x16 _ _ h B => ?_)
                  refine cl_X7_writesNumber C hl.1 B q_934 ⟨Nat.le_of_ble_eq_true rfl, Nat.le_of_ble_eq_true rfl⟩ ⟨Nat.zero_le _, Nat.zero_le _⟩ (Nat.le_of_ble_eq_true rfl) k_o r_x16 h dX7_writesField_58 (fun M17 _ _ h B => ?_)
                  have o_M17 := B.2.2
                  refine jr_iinc (k := 0) (lv' := fun x18 => [(4, .int (jI x18)), (3, .int (jI x1)), (0, .ref (jD G o)), (1, .int (jI a1)), (2, .int (jI a2))]) C h hl rfl (by decide) (fun _ => rfl) dX7_writesField_61 (fun x18 h r_x18 ls hl => ?_)
                  refine lv_goto (tgt := 25) C.1 C.2.1 dX7_writesField_64 (by decide) ?_
                  exact ih25 _ _ _ _ _ h r_x18 B (lv_sub hl [0, 1, 2, 3, 4] rfl)
              · exact hkx25 _ _ _ _ h  B (lv_sub hl [1, 2, 3, 4] rfl)
          exact hL25 N _ _ _ _ _ h (jkc rfl) B (lv_sub hl [0, 1, 2, 3, 4] rfl))
        refine jr_if_le (tgt := 22) C r_x1 h dX7_writesField_13 (by decide) (fun hc13 h => ?_) (fun hc13 h => ?_)
        · exact hj13_5 _ _ _ _ h  B (lv_sub hl [0, 1, 2, 3] rfl)
        · refine lv_aload_n C.1 C.2.1 dX7_writesField_16 rfl (lv_at hl 1 rfl) ?_
          refine jr_bipush C dX7_writesField_17 (by decide) ?_
          refine cl_X7_writes C hl.1 B q_926 ⟨Nat.le_of_ble_eq_true rfl, Nat.le_of_ble_eq_true rfl⟩ ⟨Nat.zero_le _, Nat.zero_le _⟩ (Nat.le_of_ble_eq_true rfl) k_o (jkc rfl) h dX7_writesField_19 (fun M19 _ _ h B => ?_)
          have o_M19 := B.2.2
          exact hj13_5 _ _ _ _ h  B (lv_sub hl [0, 1, 2, 3] rfl)
      · exact hkx2 _ _ _ _ h  B (lv_sub hl [] rfl)
  exact hL2 N _ _ _ _ _ h (jkc rfl) B (lv_sub hl [0, 1, 2, 3] rfl)
theorem cl_X7_writesField {p : Program} {l : Launch} {e : Env} {R : Room} {s : State} {m : MethodId} {args : Array Value} {below : List Frame} {meth : Method} {c : Code} {H : Heap} {locs : List Loc} {cells slots : Nat} {Q : State → Prop} {cc : ByteArray} {nL : Nat} {own : String} {G : jG} {H0 : Heap} {pc idx : Nat} {ls : Array Slot} {rest : List Value} {N : Nat} {M : jM} {o a1 a2 : Int} {k : jM → Prop} (C : Cx G p s args m c cc nL own) (hl : ls.size = nL) (B : Hp G M H0 H locs) (q1 : Cond.methodLink own idx yX7_writesField ∈ tb) (hR : (rmm 2 46).frames + 1 ≤ R.frames ∧ 8 + (5 + 11) + (rmm 2 46).locals ≤ R.locals) (hcs : cells ≤ R.cells ∧ slots ≤ R.slots) (hW : (rest.map fun v => v.category).sum ≤ 8) (k_o : jK o = 8) (r_a1 : jR a1) (r_a2 : jR a2) (h : w_X7_writesField N M o a1 a2 k) (hdg : decode cc pc = .ok (.invokevirtual idx, 3)) (kk : ∀ (M' : jM) (H1 : Heap) (locs1 : List Loc), k M' → Hp G M' H0 H1 locs1 → W p l e R s m args below meth c H1 locs1 cells slots Q (F0 m (pc + 3) ls rest)) : W p l e R s m args below meth c H locs cells slots Q (F0 m pc ls (.int (jI a2) :: .int (jI a1) :: .ref (jD G o) :: rest)) :=
  jr_callV B (jr_runV (o := o) (As := [.int (jI a1), .int (jI a2)]) (n := 2) C hl B (m_X7_writesField B.2.2 k_o r_a1 r_a2 h) (jE8 k_o) (by omega) rfl q1 q_932 qs_53 q_933 q_8 ⟨by decide, by decide, by decide +kernel⟩ rfl ⟨rfl, rfl⟩ hR hcs rfl hW hdg) (fun M' H1 locs1 hk B1 => kk M' H1 locs1 hk B1)
def lp_X7_print_20 (N : Nat) (o : Int) (x1 : Int) (kx20 : jM → Prop) : Nat → Int → jM → Prop
  | 0, _, _ => False
  | n + 1, x3, M4 => (if x3 < 4 then (if x3 ≤ 0 then (w_X7_writesField N M4 o x1 x3 (fun M6 => (jL (jW (x3 + 1)) (fun x7 => (lp_X7_print_20 N o x1 kx20 n x7 M6))))) else (w_X7_writes M4 o 94 (fun M8 => (w_X7_writesField N M8 o x1 x3 (fun M9 => (jL (jW (x3 + 1)) (fun x10 => (lp_X7_print_20 N o x1 kx20 n x10 M9)))))))) else (kx20 M4))
def w_X7_print (N : Nat) (M : jM) (o : Int) (a1 : Int) (k : Int → jM → Prop) : Prop := (w_X7_placeOf N M o a1 (fun x1 => (if x1 < 0 then (k (-1000001) M) else (jL (jU M o 7 0) (fun M2 => (lp_X7_print_20 N o x1 (fun (M5 : jM) => (k (M5 o 7) M5)) N 0 M2))))))
set_option maxHeartbeats 4000000 in
set_option maxRecDepth 100000 in
theorem m_X7_print {l : Launch} {G : jG} {N : Nat} {M : jM} {o a1 : Int} {k : Int → jM → Prop} (o_M : jOK M) (k_o : jK o = 8) (r_a1 : jR a1) (h : w_X7_print N M o a1 k) : Met l yX7_print (wsG yX7_print cX7_print 4 (some .int)) (rmm 3 70) (jPc G M [.ref (jD G o), .int (jI a1)]) (qI G k) 0 0 (gA G) := by
  refine jm_start RX7 rfl (by decide) (Nat.le_of_ble_eq_true rfl) o_M ?_
  intro p e s m args below meth c ls C hr hlocks hl B
  have hl : lv_has ls 4 [(0, .ref (jD G o)), (1, .int (jI a1))] := hl
  unfold w_X7_print at h
  refine lv_aload_n C.1 C.2.1 dX7_print_0 rfl (lv_at hl 0 rfl) ?_
  refine lv_iload_n C.1 C.2.1 dX7_print_1 rfl (lv_at hl 1 rfl) ?_
  refine cl_X7_placeOf C hl.1 B q_749 ⟨Nat.le_of_ble_eq_true rfl, Nat.le_of_ble_eq_true rfl⟩ ⟨Nat.zero_le _, Nat.zero_le _⟩ (Nat.le_of_ble_eq_true rfl) k_o r_a1 h dX7_print_2 (fun x1 r_x1 _ _ h B => ?_)
  refine lv_istore_n (lv' := [(2, .int (jI x1)), (0, .ref (jD G o)), (1, .int (jI a1))]) C.1 C.2.1 dX7_print_5 rfl hl (by decide) rfl (fun ls hl => ?_)
  refine lv_iload_n C.1 C.2.1 dX7_print_6 rfl (lv_at hl 0 rfl) ?_
  refine jr_if_ge (tgt := 13) C r_x1 h dX7_print_7 (by decide) (fun hc7 h => ?_) (fun hc7 h => ?_)
  · refine jr_ldc (n := -1000001) C q_753 (by decide) dX7_print_10 ?_
    exact jr_iret C B hr hlocks (jkc rfl) h dX7_print_12
  · refine lv_aload_n C.1 C.2.1 dX7_print_13 rfl (lv_at hl 1 rfl) ?_
    refine jr_iconst C dX7_print_14 ?_
    refine pf_X7_181 C B k_o (jkc rfl) h dX7_print_15 (fun M2 _ _ h B => ?_)
    have o_M2 := B.2.2
    refine jr_iconst C dX7_print_18 ?_
    refine lv_istore_n (lv' := [(3, .int (jI 0)), (2, .int (jI x1)), (0, .ref (jD G o)), (1, .int (jI a1))]) C.1 C.2.1 dX7_print_19 rfl hl (by decide) rfl (fun ls hl => ?_)
    obtain ⟨kx20, hkx20, h⟩ : ∃ kx20 : jM → Prop, (∀ (M5 : jM) (H : Heap) (locs : List Loc) (ls : Array Slot), kx20 M5 → Hp G M5 s.heap H locs → lv_has ls 4 [(0, .ref (jD G o))] → W p l e (rmm 3 70) s m args below meth c H locs 0 0 (MQ below (qI G k) args s 0 0 (gA G)) (F0 m 47 ls [])) ∧ lp_X7_print_20 N o x1 kx20 N 0 M2 := by
      refine ⟨_, ?_, h⟩
      intro M5 H locs ls h  B hl
      have o_M5 := B.2.2
      refine lv_aload_n C.1 C.2.1 dX7_print_47 rfl (lv_at hl 0 rfl) ?_
      refine gf_X7_181 C B k_o dX7_print_48 ?_
      exact jr_iret C B hr hlocks (o_M5 o 7).1 h dX7_print_51
    have hL20 : ∀ (n : Nat) (x3 : Int) (M4 : jM) (H : Heap) (locs : List Loc) (ls : Array Slot), lp_X7_print_20 N o x1 kx20 n x3 M4 → jR x3 → Hp G M4 s.heap H locs → lv_has ls 4 [(3, .int (jI x3)), (2, .int (jI x1)), (0, .ref (jD G o))] → W p l e (rmm 3 70) s m args below meth c H locs 0 0 (MQ below (qI G k) args s 0 0 (gA G)) (F0 m 20 ls []) := by
      intro n
      induction n with
      | zero => intro x3 M4 H locs ls h; exact (show False from h).elim
      | succ n ih20 =>
        intro x3 M4 H locs ls h r_x3 B hl
        have o_M4 := B.2.2
        rw [lp_X7_print_20] at h
        refine lv_iload_n C.1 C.2.1 dX7_print_20 rfl (lv_at hl 0 rfl) ?_
        refine jr_iconst C dX7_print_21 ?_
        refine jr_icmp_ge (tgt := 47) C r_x3 (jkc rfl) h dX7_print_22 (by decide) (fun hc22 h => ?_) (fun hc22 h => ?_)
        · refine lv_iload_n C.1 C.2.1 dX7_print_25 rfl (lv_at hl 0 rfl) ?_
          refine jr_if_le (tgt := 35) C r_x3 h dX7_print_26 (by decide) (fun hc26 h => ?_) (fun hc26 h => ?_)
          · refine lv_aload_n C.1 C.2.1 dX7_print_35 rfl (lv_at hl 2 rfl) ?_
            refine lv_iload_n C.1 C.2.1 dX7_print_36 rfl (lv_at hl 1 rfl) ?_
            refine lv_iload_n C.1 C.2.1 dX7_print_37 rfl (lv_at hl 0 rfl) ?_
            refine cl_X7_writesField C hl.1 B q_930 ⟨Nat.le_of_ble_eq_true rfl, Nat.le_of_ble_eq_true rfl⟩ ⟨Nat.zero_le _, Nat.zero_le _⟩ (Nat.le_of_ble_eq_true rfl) k_o r_x1 r_x3 h dX7_print_38 (fun M6 _ _ h B => ?_)
            have o_M6 := B.2.2
            refine jr_iinc (k := 0) (lv' := fun x7 => [(3, .int (jI x7)), (2, .int (jI x1)), (0, .ref (jD G o))]) C h hl rfl (by decide) (fun _ => rfl) dX7_print_41 (fun x7 h r_x7 ls hl => ?_)
            refine lv_goto (tgt := 20) C.1 C.2.1 dX7_print_44 (by decide) ?_
            exact ih20 _ _ _ _ _ h r_x7 B (lv_sub hl [0, 1, 2] rfl)
          · refine lv_aload_n C.1 C.2.1 dX7_print_29 rfl (lv_at hl 2 rfl) ?_
            refine jr_bipush C dX7_print_30 (by decide) ?_
            refine cl_X7_writes C hl.1 B q_926 ⟨Nat.le_of_ble_eq_true rfl, Nat.le_of_ble_eq_true rfl⟩ ⟨Nat.zero_le _, Nat.zero_le _⟩ (Nat.le_of_ble_eq_true rfl) k_o (jkc rfl) h dX7_print_32 (fun M8 _ _ h B => ?_)
            have o_M8 := B.2.2
            refine lv_aload_n C.1 C.2.1 dX7_print_35 rfl (lv_at hl 2 rfl) ?_
            refine lv_iload_n C.1 C.2.1 dX7_print_36 rfl (lv_at hl 1 rfl) ?_
            refine lv_iload_n C.1 C.2.1 dX7_print_37 rfl (lv_at hl 0 rfl) ?_
            refine cl_X7_writesField C hl.1 B q_930 ⟨Nat.le_of_ble_eq_true rfl, Nat.le_of_ble_eq_true rfl⟩ ⟨Nat.zero_le _, Nat.zero_le _⟩ (Nat.le_of_ble_eq_true rfl) k_o r_x1 r_x3 h dX7_print_38 (fun M9 _ _ h B => ?_)
            have o_M9 := B.2.2
            refine jr_iinc (k := 0) (lv' := fun x10 => [(3, .int (jI x10)), (2, .int (jI x1)), (0, .ref (jD G o))]) C h hl rfl (by decide) (fun _ => rfl) dX7_print_41 (fun x10 h r_x10 ls hl => ?_)
            refine lv_goto (tgt := 20) C.1 C.2.1 dX7_print_44 (by decide) ?_
            exact ih20 _ _ _ _ _ h r_x10 B (lv_sub hl [0, 1, 2] rfl)
        · exact hkx20 _ _ _ _ h  B (lv_sub hl [2] rfl)
    exact hL20 N _ _ _ _ _ h (jkc rfl) B (lv_sub hl [0, 1, 2] rfl)
theorem cl_X7_print {p : Program} {l : Launch} {e : Env} {R : Room} {s : State} {m : MethodId} {args : Array Value} {below : List Frame} {meth : Method} {c : Code} {H : Heap} {locs : List Loc} {cells slots : Nat} {Q : State → Prop} {cc : ByteArray} {nL : Nat} {own : String} {G : jG} {H0 : Heap} {pc idx : Nat} {ls : Array Slot} {rest : List Value} {N : Nat} {M : jM} {o a1 : Int} {k : Int → jM → Prop} (C : Cx G p s args m c cc nL own) (hl : ls.size = nL) (B : Hp G M H0 H locs) (q1 : Cond.methodLink own idx yX7_print ∈ tb) (hR : (rmm 3 70).frames + 1 ≤ R.frames ∧ 8 + (4 + 11) + (rmm 3 70).locals ≤ R.locals) (hcs : cells ≤ R.cells ∧ slots ≤ R.slots) (hW : (rest.map fun v => v.category).sum ≤ 8) (k_o : jK o = 8) (r_a1 : jR a1) (h : w_X7_print N M o a1 k) (hdg : decode cc pc = .ok (.invokevirtual idx, 3)) (kk : ∀ (r : Int) (M' : jM), jR r → ∀ (H1 : Heap) (locs1 : List Loc), k r M' → Hp G M' H0 H1 locs1 → W p l e R s m args below meth c H1 locs1 cells slots Q (F0 m (pc + 3) ls (.int (jI r) :: rest))) : W p l e R s m args below meth c H locs cells slots Q (F0 m pc ls (.int (jI a1) :: .ref (jD G o) :: rest)) :=
  jr_callI B (jr_runV (o := o) (As := [.int (jI a1)]) (n := 1) C hl B (m_X7_print B.2.2 k_o r_a1 h) (jE8 k_o) (by omega) rfl q1 q_923 q_924 q_925 q_8 ⟨by decide, by decide, by decide +kernel⟩ rfl ⟨rfl, rfl⟩ hR hcs rfl hW hdg) (fun r M' H1 locs1 hr hk B1 => kk r M' hr H1 locs1 hk B1)
def w_X7_printed (M : jM) (o : Int) (a1 : Int) (k : Int → Prop) : Prop := (if a1 < 0 then (k (-1000002)) else (if a1 < (M o 7) then (jB a1 500 ∧ (k (M (o + 5) a1))) else (k (-1000007))))
set_option maxHeartbeats 4000000 in
set_option maxRecDepth 100000 in
theorem m_X7_printed {l : Launch} {G : jG} {M : jM} {o a1 : Int} {k : Int → Prop} (o_M : jOK M) (k_o : jK o = 8) (r_a1 : jR a1) (h : w_X7_printed M o a1 k) : Met l yX7_printed (wsG yX7_printed cX7_printed 2 (some .int)) (rmm 0 0) (jPc G M [.ref (jD G o), .int (jI a1)]) (qI G (fun r M' => M' = M ∧ k r)) 0 0 (gA G) := by
  refine jm_start RX7 rfl (by decide) (Nat.le_of_ble_eq_true rfl) o_M ?_
  intro p e s m args below meth c ls C hr hlocks hl B
  have hl : lv_has ls 2 [(0, .ref (jD G o)), (1, .int (jI a1))] := hl
  unfold w_X7_printed at h
  refine lv_iload_n C.1 C.2.1 dX7_printed_0 rfl (lv_at hl 1 rfl) ?_
  refine jr_if_ge (tgt := 9) C r_a1 h dX7_printed_1 (by decide) (fun hc1 h => ?_) (fun hc1 h => ?_)
  · refine jr_ldc (n := -1000002) C q_748 (by decide) dX7_printed_4 ?_
    refine lv_goto (tgt := 28) C.1 C.2.1 dX7_printed_6 (by decide) ?_
    exact jr_iret C B hr hlocks (jkc rfl) ⟨rfl, h⟩ dX7_printed_28
  · refine lv_iload_n C.1 C.2.1 dX7_printed_9 rfl (lv_at hl 1 rfl) ?_
    refine lv_aload_n C.1 C.2.1 dX7_printed_10 rfl (lv_at hl 0 rfl) ?_
    refine gf_X7_181 C B k_o dX7_printed_11 ?_
    refine jr_icmp_ge (tgt := 26) C r_a1 (o_M o 7).1 h dX7_printed_14 (by decide) (fun hc14 h => ?_) (fun hc14 h => ?_)
    · refine lv_aload_n C.1 C.2.1 dX7_printed_17 rfl (lv_at hl 0 rfl) ?_
      refine gf_X7_22 C B k_o dX7_printed_18 ?_
      refine lv_iload_n C.1 C.2.1 dX7_printed_21 rfl (lv_at hl 1 rfl) ?_
      obtain ⟨g1, h⟩ := h
      refine jr_iald C B 500 (jk1 (ko_X7_6 k_o) rfl) (jk2 (ko_X7_6 k_o) rfl) r_a1 g1 dX7_printed_22 ?_
      refine lv_goto (tgt := 28) C.1 C.2.1 dX7_printed_23 (by decide) ?_
      exact jr_iret C B hr hlocks (o_M (o + 5) a1).1 ⟨rfl, h⟩ dX7_printed_28
    · refine jr_ldc (n := -1000007) C q_892 (by decide) dX7_printed_26 ?_
      exact jr_iret C B hr hlocks (jkc rfl) ⟨rfl, h⟩ dX7_printed_28
theorem cl_X7_printed {p : Program} {l : Launch} {e : Env} {R : Room} {s : State} {m : MethodId} {args : Array Value} {below : List Frame} {meth : Method} {c : Code} {H : Heap} {locs : List Loc} {cells slots : Nat} {Q : State → Prop} {cc : ByteArray} {nL : Nat} {own : String} {G : jG} {H0 : Heap} {pc idx : Nat} {ls : Array Slot} {rest : List Value} {M : jM} {o a1 : Int} {k : Int → Prop} (C : Cx G p s args m c cc nL own) (hl : ls.size = nL) (B : Hp G M H0 H locs) (q1 : Cond.methodLink own idx yX7_printed ∈ tb) (hR : (rmm 0 0).frames + 1 ≤ R.frames ∧ 8 + (2 + 11) + (rmm 0 0).locals ≤ R.locals) (hcs : cells ≤ R.cells ∧ slots ≤ R.slots) (hW : (rest.map fun v => v.category).sum ≤ 8) (k_o : jK o = 8) (r_a1 : jR a1) (h : w_X7_printed M o a1 k) (hdg : decode cc pc = .ok (.invokevirtual idx, 3)) (kk : ∀ (r : Int), jR r → ∀ (H1 : Heap) (locs1 : List Loc), k r → Hp G M H0 H1 locs1 → W p l e R s m args below meth c H1 locs1 cells slots Q (F0 m (pc + 3) ls (.int (jI r) :: rest))) : W p l e R s m args below meth c H locs cells slots Q (F0 m pc ls (.int (jI a1) :: .ref (jD G o) :: rest)) :=
  jr_callI B (jr_runV (o := o) (As := [.int (jI a1)]) (n := 1) C hl B (m_X7_printed B.2.2 k_o r_a1 h) (jE8 k_o) (by omega) rfl q1 q_939 q_940 q_941 q_8 ⟨by decide, by decide, by decide +kernel⟩ rfl ⟨rfl, rfl⟩ hR hcs rfl hW hdg) (fun r M' H1 locs1 hr hk B1 => by obtain ⟨rfl, hk⟩ := hk; exact kk r hr H1 locs1 hk B1)
def w_X7_undo (N : Nat) (M : jM) (o : Int) (k : Int → jM → Prop) : Prop := (if (M o 3) = 0 then (k (-1000007) M) else (jL (jU M o 3 (jW ((M o 3) - 1))) (fun M1 => (w_X7_copies N M1 (o + 3) (jW (1115 * (M1 o 3))) (o + 1) 0 (fun M2 => (k (M2 o 3) M2))))))
set_option maxHeartbeats 4000000 in
set_option maxRecDepth 100000 in
theorem m_X7_undo {l : Launch} {G : jG} {N : Nat} {M : jM} {o : Int} {k : Int → jM → Prop} (o_M : jOK M) (k_o : jK o = 8) (h : w_X7_undo N M o k) : Met l yX7_undo (wsG yX7_undo cX7_undo 1 (some .int)) (rmm 1 24) (jPc G M [.ref (jD G o)]) (qI G k) 0 0 (gA G) := by
  refine jm_start RX7 rfl (by decide) (Nat.le_of_ble_eq_true rfl) o_M ?_
  intro p e s m args below meth c ls C hr hlocks hl B
  have hl : lv_has ls 1 [(0, .ref (jD G o))] := hl
  unfold w_X7_undo at h
  refine lv_aload_n C.1 C.2.1 dX7_undo_0 rfl (lv_at hl 0 rfl) ?_
  refine gf_X7_42 C B k_o dX7_undo_1 ?_
  refine jr_if_ne (tgt := 10) C (o_M o 3).1 h dX7_undo_4 (by decide) (fun hc4 h => ?_) (fun hc4 h => ?_)
  · refine jr_ldc (n := -1000007) C q_892 (by decide) dX7_undo_7 ?_
    exact jr_iret C B hr hlocks (jkc rfl) h dX7_undo_9
  · refine lv_aload_n C.1 C.2.1 dX7_undo_10 rfl (lv_at hl 0 rfl) ?_
    refine lv_dup C.1 C.2.1 dX7_undo_11 rfl ?_
    refine gf_X7_42 C B k_o dX7_undo_12 ?_
    refine jr_iconst C dX7_undo_15 ?_
    refine jr_isub C dX7_undo_16 ?_
    refine pf_X7_42 C B k_o (jW_R _) h dX7_undo_17 (fun M1 _ _ h B => ?_)
    have o_M1 := B.2.2
    refine lv_aload_n C.1 C.2.1 dX7_undo_20 rfl (lv_at hl 0 rfl) ?_
    refine gf_X7_16 C B k_o dX7_undo_21 ?_
    refine jr_sipush C dX7_undo_24 (by decide) ?_
    refine lv_aload_n C.1 C.2.1 dX7_undo_27 rfl (lv_at hl 0 rfl) ?_
    refine gf_X7_42 C B k_o dX7_undo_28 ?_
    refine jr_imul C dX7_undo_31 ?_
    refine lv_aload_n C.1 C.2.1 dX7_undo_32 rfl (lv_at hl 0 rfl) ?_
    refine gf_X7_7 C B k_o dX7_undo_33 ?_
    refine jr_iconst C dX7_undo_36 ?_
    refine cl_X7_copies C hl.1 B q_738 ⟨Nat.le_of_ble_eq_true rfl, Nat.le_of_ble_eq_true rfl⟩ ⟨Nat.zero_le _, Nat.zero_le _⟩ (Nat.le_of_ble_eq_true rfl) (jk1 (ko_X7_2 k_o) rfl) (jW_R _) (jk1 (ko_X7_0 k_o) rfl) (jkc rfl) h dX7_undo_37 (fun M2 _ _ h B => ?_)
    have o_M2 := B.2.2
    refine lv_aload_n C.1 C.2.1 dX7_undo_40 rfl (lv_at hl 0 rfl) ?_
    refine gf_X7_42 C B k_o dX7_undo_41 ?_
    exact jr_iret C B hr hlocks (o_M2 o 3).1 h dX7_undo_44
theorem cl_X7_undo {p : Program} {l : Launch} {e : Env} {R : Room} {s : State} {m : MethodId} {args : Array Value} {below : List Frame} {meth : Method} {c : Code} {H : Heap} {locs : List Loc} {cells slots : Nat} {Q : State → Prop} {cc : ByteArray} {nL : Nat} {own : String} {G : jG} {H0 : Heap} {pc idx : Nat} {ls : Array Slot} {rest : List Value} {N : Nat} {M : jM} {o : Int} {k : Int → jM → Prop} (C : Cx G p s args m c cc nL own) (hl : ls.size = nL) (B : Hp G M H0 H locs) (q1 : Cond.methodLink own idx yX7_undo ∈ tb) (hR : (rmm 1 24).frames + 1 ≤ R.frames ∧ 8 + (1 + 11) + (rmm 1 24).locals ≤ R.locals) (hcs : cells ≤ R.cells ∧ slots ≤ R.slots) (hW : (rest.map fun v => v.category).sum ≤ 8) (k_o : jK o = 8) (h : w_X7_undo N M o k) (hdg : decode cc pc = .ok (.invokevirtual idx, 3)) (kk : ∀ (r : Int) (M' : jM), jR r → ∀ (H1 : Heap) (locs1 : List Loc), k r M' → Hp G M' H0 H1 locs1 → W p l e R s m args below meth c H1 locs1 cells slots Q (F0 m (pc + 3) ls (.int (jI r) :: rest))) : W p l e R s m args below meth c H locs cells slots Q (F0 m pc ls (.ref (jD G o) :: rest)) :=
  jr_callI B (jr_runV (o := o) (As := []) (n := 0) C hl B (m_X7_undo B.2.2 k_o h) (jE8 k_o) (by omega) rfl q1 q_943 q_944 q_945 q_8 ⟨by decide, by decide, by decide +kernel⟩ rfl ⟨rfl, rfl⟩ hR hcs rfl hW hdg) (fun r M' H1 locs1 hr hk B1 => kk r M' hr H1 locs1 hk B1)
def w_X7_isColumn (a1 : Int) (k : Int → Prop) : Prop := (w_X7_in a1 0 5 (fun x1 => (k x1)))
set_option maxHeartbeats 4000000 in
set_option maxRecDepth 100000 in
theorem m_X7_isColumn {l : Launch} {G : jG} {M : jM} {a1 : Int} {k : Int → Prop} (o_M : jOK M) (r_a1 : jR a1) (h : w_X7_isColumn a1 k) : Met l yX7_isColumn (wsG yX7_isColumn cX7_isColumn 1 (some .boolean)) (rmm 1 22) (jPc G M [.int (jI a1)]) (qZ G (fun r M' => M' = M ∧ k r)) 0 0 (gA G) := by
  refine jm_start RX7 rfl (by decide) (Nat.le_of_ble_eq_true rfl) o_M ?_
  intro p e s m args below meth c ls C hr hlocks hl B
  have hl : lv_has ls 1 [(0, .int (jI a1))] := hl
  unfold w_X7_isColumn at h
  refine lv_iload_n C.1 C.2.1 dX7_isColumn_0 rfl (lv_at hl 0 rfl) ?_
  refine jr_iconst C dX7_isColumn_1 ?_
  refine jr_iconst C dX7_isColumn_2 ?_
  refine cl_X7_in C hl.1 B q_745 ⟨Nat.le_of_ble_eq_true rfl, Nat.le_of_ble_eq_true rfl⟩ ⟨Nat.zero_le _, Nat.zero_le _⟩ (Nat.le_of_ble_eq_true rfl) r_a1 (jkc rfl) (jkc rfl) h dX7_isColumn_3 (fun x1 z_x1 _ _ h B => ?_)
  exact jr_zret C B hr hlocks z_x1 ⟨rfl, h⟩ dX7_isColumn_6
theorem cl_X7_isColumn {p : Program} {l : Launch} {e : Env} {R : Room} {s : State} {m : MethodId} {args : Array Value} {below : List Frame} {meth : Method} {c : Code} {H : Heap} {locs : List Loc} {cells slots : Nat} {Q : State → Prop} {cc : ByteArray} {nL : Nat} {own : String} {G : jG} {H0 : Heap} {pc idx : Nat} {ls : Array Slot} {rest : List Value} {M : jM} {a1 : Int} {k : Int → Prop} (C : Cx G p s args m c cc nL own) (hl : ls.size = nL) (B : Hp G M H0 H locs) (q1 : Cond.methodLink own idx yX7_isColumn ∈ tb) (hR : (rmm 1 22).frames + 1 ≤ R.frames ∧ 8 + (1 + 11) + (rmm 1 22).locals ≤ R.locals) (hcs : cells ≤ R.cells ∧ slots ≤ R.slots) (hW : (rest.map fun v => v.category).sum ≤ 8) (r_a1 : jR a1) (h : w_X7_isColumn a1 k) (hdg : decode cc pc = .ok (.invokestatic idx, 3)) (kk : ∀ (r : Int), (r = 0 ∨ r = 1) → ∀ (H1 : Heap) (locs1 : List Loc), k r → Hp G M H0 H1 locs1 → W p l e R s m args below meth c H1 locs1 cells slots Q (F0 m (pc + 3) ls (.int (jI r) :: rest))) : W p l e R s m args below meth c H locs cells slots Q (F0 m pc ls (.int (jI a1) :: rest)) :=
  jr_callZ B (jr_runS (As := [.int (jI a1)]) (n := 1) C hl B (m_X7_isColumn B.2.2 r_a1 h) q1 q_963 q_964 q_8 ⟨by decide, by decide, by decide +kernel⟩ rfl ⟨rfl, rfl⟩ hR hcs rfl hW hdg) (fun r M' H1 locs1 hr hk B1 => by obtain ⟨rfl, hk⟩ := hk; exact kk r hr H1 locs1 hk B1)
def w_X7_isList (a1 : Int) (k : Int → Prop) : Prop := (w_X7_in a1 0 7 (fun x1 => (k x1)))
set_option maxHeartbeats 4000000 in
set_option maxRecDepth 100000 in
theorem m_X7_isList {l : Launch} {G : jG} {M : jM} {a1 : Int} {k : Int → Prop} (o_M : jOK M) (r_a1 : jR a1) (h : w_X7_isList a1 k) : Met l yX7_isList (wsG yX7_isList cX7_isList 1 (some .boolean)) (rmm 1 22) (jPc G M [.int (jI a1)]) (qZ G (fun r M' => M' = M ∧ k r)) 0 0 (gA G) := by
  refine jm_start RX7 rfl (by decide) (Nat.le_of_ble_eq_true rfl) o_M ?_
  intro p e s m args below meth c ls C hr hlocks hl B
  have hl : lv_has ls 1 [(0, .int (jI a1))] := hl
  unfold w_X7_isList at h
  refine lv_iload_n C.1 C.2.1 dX7_isList_0 rfl (lv_at hl 0 rfl) ?_
  refine jr_iconst C dX7_isList_1 ?_
  refine jr_bipush C dX7_isList_2 (by decide) ?_
  refine cl_X7_in C hl.1 B q_745 ⟨Nat.le_of_ble_eq_true rfl, Nat.le_of_ble_eq_true rfl⟩ ⟨Nat.zero_le _, Nat.zero_le _⟩ (Nat.le_of_ble_eq_true rfl) r_a1 (jkc rfl) (jkc rfl) h dX7_isList_4 (fun x1 z_x1 _ _ h B => ?_)
  exact jr_zret C B hr hlocks z_x1 ⟨rfl, h⟩ dX7_isList_7
theorem cl_X7_isList {p : Program} {l : Launch} {e : Env} {R : Room} {s : State} {m : MethodId} {args : Array Value} {below : List Frame} {meth : Method} {c : Code} {H : Heap} {locs : List Loc} {cells slots : Nat} {Q : State → Prop} {cc : ByteArray} {nL : Nat} {own : String} {G : jG} {H0 : Heap} {pc idx : Nat} {ls : Array Slot} {rest : List Value} {M : jM} {a1 : Int} {k : Int → Prop} (C : Cx G p s args m c cc nL own) (hl : ls.size = nL) (B : Hp G M H0 H locs) (q1 : Cond.methodLink own idx yX7_isList ∈ tb) (hR : (rmm 1 22).frames + 1 ≤ R.frames ∧ 8 + (1 + 11) + (rmm 1 22).locals ≤ R.locals) (hcs : cells ≤ R.cells ∧ slots ≤ R.slots) (hW : (rest.map fun v => v.category).sum ≤ 8) (r_a1 : jR a1) (h : w_X7_isList a1 k) (hdg : decode cc pc = .ok (.invokestatic idx, 3)) (kk : ∀ (r : Int), (r = 0 ∨ r = 1) → ∀ (H1 : Heap) (locs1 : List Loc), k r → Hp G M H0 H1 locs1 → W p l e R s m args below meth c H1 locs1 cells slots Q (F0 m (pc + 3) ls (.int (jI r) :: rest))) : W p l e R s m args below meth c H locs cells slots Q (F0 m pc ls (.int (jI a1) :: rest)) :=
  jr_callZ B (jr_runS (As := [.int (jI a1)]) (n := 1) C hl B (m_X7_isList B.2.2 r_a1 h) q1 q_978 q_979 q_8 ⟨by decide, by decide, by decide +kernel⟩ rfl ⟨rfl, rfl⟩ hR hcs rfl hW hdg) (fun r M' H1 locs1 hr hk B1 => by obtain ⟨rfl, hk⟩ := hk; exact kk r hr H1 locs1 hk B1)
def w_X7_ofColumn (M : jM) (o : Int) (a1 : Int) (a2 : Int) (k : Int → Prop) : Prop := (jB (jW ((jW (5 + (jW (3 * a1)))) + a2)) 1115 ∧ (k (M (o + 1) (jW ((jW (5 + (jW (3 * a1)))) + a2)))))
set_option maxHeartbeats 4000000 in
set_option maxRecDepth 100000 in
theorem m_X7_ofColumn {l : Launch} {G : jG} {M : jM} {o a1 a2 : Int} {k : Int → Prop} (o_M : jOK M) (k_o : jK o = 8) (r_a1 : jR a1) (r_a2 : jR a2) (h : w_X7_ofColumn M o a1 a2 k) : Met l yX7_ofColumn (wsG yX7_ofColumn cX7_ofColumn 3 (some .int)) (rmm 0 0) (jPc G M [.ref (jD G o), .int (jI a1), .int (jI a2)]) (qI G (fun r M' => M' = M ∧ k r)) 0 0 (gA G) := by
  refine jm_start RX7 rfl (by decide) (Nat.le_of_ble_eq_true rfl) o_M ?_
  intro p e s m args below meth c ls C hr hlocks hl B
  have hl : lv_has ls 3 [(0, .ref (jD G o)), (1, .int (jI a1)), (2, .int (jI a2))] := hl
  unfold w_X7_ofColumn at h
  refine lv_aload_n C.1 C.2.1 dX7_ofColumn_0 rfl (lv_at hl 0 rfl) ?_
  refine gf_X7_7 C B k_o dX7_ofColumn_1 ?_
  refine jr_iconst C dX7_ofColumn_4 ?_
  refine jr_iconst C dX7_ofColumn_5 ?_
  refine lv_iload_n C.1 C.2.1 dX7_ofColumn_6 rfl (lv_at hl 1 rfl) ?_
  refine jr_imul C dX7_ofColumn_7 ?_
  refine jr_iadd C dX7_ofColumn_8 ?_
  refine lv_iload_n C.1 C.2.1 dX7_ofColumn_9 rfl (lv_at hl 2 rfl) ?_
  refine jr_iadd C dX7_ofColumn_10 ?_
  obtain ⟨g1, h⟩ := h
  refine jr_iald C B 1115 (jk1 (ko_X7_0 k_o) rfl) (jk2 (ko_X7_0 k_o) rfl) (jW_R _) g1 dX7_ofColumn_11 ?_
  exact jr_iret C B hr hlocks (o_M (o + 1) (jW ((jW (5 + (jW (3 * a1)))) + a2))).1 ⟨rfl, h⟩ dX7_ofColumn_12
theorem cl_X7_ofColumn {p : Program} {l : Launch} {e : Env} {R : Room} {s : State} {m : MethodId} {args : Array Value} {below : List Frame} {meth : Method} {c : Code} {H : Heap} {locs : List Loc} {cells slots : Nat} {Q : State → Prop} {cc : ByteArray} {nL : Nat} {own : String} {G : jG} {H0 : Heap} {pc idx : Nat} {ls : Array Slot} {rest : List Value} {M : jM} {o a1 a2 : Int} {k : Int → Prop} (C : Cx G p s args m c cc nL own) (hl : ls.size = nL) (B : Hp G M H0 H locs) (q1 : Cond.methodLink own idx yX7_ofColumn ∈ tb) (hR : (rmm 0 0).frames + 1 ≤ R.frames ∧ 8 + (3 + 11) + (rmm 0 0).locals ≤ R.locals) (hcs : cells ≤ R.cells ∧ slots ≤ R.slots) (hW : (rest.map fun v => v.category).sum ≤ 8) (k_o : jK o = 8) (r_a1 : jR a1) (r_a2 : jR a2) (h : w_X7_ofColumn M o a1 a2 k) (hdg : decode cc pc = .ok (.invokevirtual idx, 3)) (kk : ∀ (r : Int), jR r → ∀ (H1 : Heap) (locs1 : List Loc), k r → Hp G M H0 H1 locs1 → W p l e R s m args below meth c H1 locs1 cells slots Q (F0 m (pc + 3) ls (.int (jI r) :: rest))) : W p l e R s m args below meth c H locs cells slots Q (F0 m pc ls (.int (jI a2) :: .int (jI a1) :: .ref (jD G o) :: rest)) :=
  jr_callI B (jr_runV (o := o) (As := [.int (jI a1), .int (jI a2)]) (n := 2) C hl B (m_X7_ofColumn B.2.2 k_o r_a1 r_a2 h) (jE8 k_o) (by omega) rfl q1 q_967 qs_57 q_968 q_8 ⟨by decide, by decide, by decide +kernel⟩ rfl ⟨rfl, rfl⟩ hR hcs rfl hW hdg) (fun r M' H1 locs1 hr hk B1 => by obtain ⟨rfl, hk⟩ := hk; exact kk r hr H1 locs1 hk B1)
def w_X7_gives (M : jM) (o : Int) (a1 : Int) (k : jM → Prop) : Prop := (jB (M o 11) 20 ∧ jL (jU M (o + 6) (M o 11) a1) (fun M1 => (jL (jU M1 o 11 (jW ((M1 o 11) + 1))) (fun M2 => (k M2)))))
set_option maxHeartbeats 4000000 in
set_option maxRecDepth 100000 in
theorem m_X7_gives {l : Launch} {G : jG} {M : jM} {o a1 : Int} {k : jM → Prop} (o_M : jOK M) (k_o : jK o = 8) (r_a1 : jR a1) (h : w_X7_gives M o a1 k) : Met l yX7_gives (wsG yX7_gives cX7_gives 2 none) (rmm 0 0) (jPc G M [.ref (jD G o), .int (jI a1)]) (qV G k) 0 0 (gA G) := by
  refine jm_start RX7 rfl (by decide) (Nat.le_of_ble_eq_true rfl) o_M ?_
  intro p e s m args below meth c ls C hr hlocks hl B
  have hl : lv_has ls 2 [(0, .ref (jD G o)), (1, .int (jI a1))] := hl
  unfold w_X7_gives at h
  refine lv_aload_n C.1 C.2.1 dX7_gives_0 rfl (lv_at hl 0 rfl) ?_
  refine gf_X7_25 C B k_o dX7_gives_1 ?_
  refine lv_aload_n C.1 C.2.1 dX7_gives_4 rfl (lv_at hl 0 rfl) ?_
  refine gf_X7_194 C B k_o dX7_gives_5 ?_
  refine lv_iload_n C.1 C.2.1 dX7_gives_8 rfl (lv_at hl 1 rfl) ?_
  refine jr_iast C B 20 (jk1 (ko_X7_10 k_o) rfl) (jk2 (ko_X7_10 k_o) rfl) (o_M o 11).1 r_a1 h dX7_gives_9 (fun M1 _ _ h B => ?_)
  have o_M1 := B.2.2
  refine lv_aload_n C.1 C.2.1 dX7_gives_10 rfl (lv_at hl 0 rfl) ?_
  refine lv_dup C.1 C.2.1 dX7_gives_11 rfl ?_
  refine gf_X7_194 C B k_o dX7_gives_12 ?_
  refine jr_iconst C dX7_gives_15 ?_
  refine jr_iadd C dX7_gives_16 ?_
  refine pf_X7_194 C B k_o (jW_R _) h dX7_gives_17 (fun M2 _ _ h B => ?_)
  have o_M2 := B.2.2
  exact jr_vret C B hr hlocks h dX7_gives_20
theorem cl_X7_gives {p : Program} {l : Launch} {e : Env} {R : Room} {s : State} {m : MethodId} {args : Array Value} {below : List Frame} {meth : Method} {c : Code} {H : Heap} {locs : List Loc} {cells slots : Nat} {Q : State → Prop} {cc : ByteArray} {nL : Nat} {own : String} {G : jG} {H0 : Heap} {pc idx : Nat} {ls : Array Slot} {rest : List Value} {M : jM} {o a1 : Int} {k : jM → Prop} (C : Cx G p s args m c cc nL own) (hl : ls.size = nL) (B : Hp G M H0 H locs) (q1 : Cond.methodLink own idx yX7_gives ∈ tb) (hR : (rmm 0 0).frames + 1 ≤ R.frames ∧ 8 + (2 + 11) + (rmm 0 0).locals ≤ R.locals) (hcs : cells ≤ R.cells ∧ slots ≤ R.slots) (hW : (rest.map fun v => v.category).sum ≤ 8) (k_o : jK o = 8) (r_a1 : jR a1) (h : w_X7_gives M o a1 k) (hdg : decode cc pc = .ok (.invokevirtual idx, 3)) (kk : ∀ (M' : jM) (H1 : Heap) (locs1 : List Loc), k M' → Hp G M' H0 H1 locs1 → W p l e R s m args below meth c H1 locs1 cells slots Q (F0 m (pc + 3) ls rest)) : W p l e R s m args below meth c H locs cells slots Q (F0 m pc ls (.int (jI a1) :: .ref (jD G o) :: rest)) :=
  jr_callV B (jr_runV (o := o) (As := [.int (jI a1)]) (n := 1) C hl B (m_X7_gives B.2.2 k_o r_a1 h) (jE8 k_o) (by omega) rfl q1 q_996 qs_62 q_997 q_8 ⟨by decide, by decide, by decide +kernel⟩ rfl ⟨rfl, rfl⟩ hR hcs rfl hW hdg) (fun M' H1 locs1 hk B1 => kk M' H1 locs1 hk B1)
def lp_X7_givesAll_15 (o : Int) (a1 : Int) (a2 : Int) (x1 : Int) (kx15 : jM → Prop) : Nat → Int → jM → Prop
  | 0, _, _ => False
  | n + 1, x5, M6 => (w_X7_subsOf M6 o a1 a2 x1 (fun x9 => (if x5 < x9 then (w_X7_numberOf M6 o a1 a2 x1 x5 (fun x10 => (w_X7_gives M6 o x10 (fun M11 => (jL (jW (x5 + 1)) (fun x12 => (lp_X7_givesAll_15 o a1 a2 x1 kx15 n x12 M11))))))) else (kx15 M6))))
def lp_X7_givesAll_2 (N : Nat) (o : Int) (a1 : Int) (a2 : Int) (kx2 : jM → Prop) : Nat → Int → jM → Prop
  | 0, _, _ => False
  | n + 1, x1, M2 => (w_X7_valuesOf M2 o a1 a2 (fun x4 => (if x1 < x4 then (lp_X7_givesAll_15 o a1 a2 x1 (fun (M7 : jM) => (jL (jW (x1 + 1)) (fun x8 => (lp_X7_givesAll_2 N o a1 a2 kx2 n x8 M7)))) N 0 M2) else (kx2 M2))))
def w_X7_givesAll (N : Nat) (M : jM) (o : Int) (a1 : Int) (a2 : Int) (k : jM → Prop) : Prop := (lp_X7_givesAll_2 N o a1 a2 (fun (M3 : jM) => (k M3)) N 0 M)
set_option maxHeartbeats 4000000 in
set_option maxRecDepth 100000 in
theorem m_X7_givesAll {l : Launch} {G : jG} {N : Nat} {M : jM} {o a1 a2 : Int} {k : jM → Prop} (o_M : jOK M) (k_o : jK o = 8) (r_a1 : jR a1) (r_a2 : jR a2) (h : w_X7_givesAll N M o a1 a2 k) : Met l yX7_givesAll (wsG yX7_givesAll cX7_givesAll 5 none) (rmm 2 46) (jPc G M [.ref (jD G o), .int (jI a1), .int (jI a2)]) (qV G k) 0 0 (gA G) := by
  refine jm_start RX7 rfl (by decide) (Nat.le_of_ble_eq_true rfl) o_M ?_
  intro p e s m args below meth c ls C hr hlocks hl B
  have hl : lv_has ls 5 [(0, .ref (jD G o)), (1, .int (jI a1)), (2, .int (jI a2))] := hl
  unfold w_X7_givesAll at h
  refine jr_iconst C dX7_givesAll_0 ?_
  refine lv_istore_n (lv' := [(3, .int (jI 0)), (0, .ref (jD G o)), (1, .int (jI a1)), (2, .int (jI a2))]) C.1 C.2.1 dX7_givesAll_1 rfl hl (by decide) rfl (fun ls hl => ?_)
  obtain ⟨kx2, hkx2, h⟩ : ∃ kx2 : jM → Prop, (∀ (M3 : jM) (H : Heap) (locs : List Loc) (ls : Array Slot), kx2 M3 → Hp G M3 s.heap H locs → lv_has ls 5 [] → W p l e (rmm 2 46) s m args below meth c H locs 0 0 (MQ below (qV G k) args s 0 0 (gA G)) (F0 m 52 ls [])) ∧ lp_X7_givesAll_2 N o a1 a2 kx2 N 0 M := by
    refine ⟨_, ?_, h⟩
    intro M3 H locs ls h  B hl
    have o_M3 := B.2.2
    exact jr_vret C B hr hlocks h dX7_givesAll_52
  have hL2 : ∀ (n : Nat) (x1 : Int) (M2 : jM) (H : Heap) (locs : List Loc) (ls : Array Slot), lp_X7_givesAll_2 N o a1 a2 kx2 n x1 M2 → jR x1 → Hp G M2 s.heap H locs → lv_has ls 5 [(3, .int (jI x1)), (0, .ref (jD G o)), (1, .int (jI a1)), (2, .int (jI a2))] → W p l e (rmm 2 46) s m args below meth c H locs 0 0 (MQ below (qV G k) args s 0 0 (gA G)) (F0 m 2 ls []) := by
    intro n
    induction n with
    | zero => intro x1 M2 H locs ls h; exact (show False from h).elim
    | succ n ih2 =>
      intro x1 M2 H locs ls h r_x1 B hl
      have o_M2 := B.2.2
      rw [lp_X7_givesAll_2] at h
      refine lv_iload_n C.1 C.2.1 dX7_givesAll_2 rfl (lv_at hl 0 rfl) ?_
      refine lv_aload_n C.1 C.2.1 dX7_givesAll_3 rfl (lv_at hl 1 rfl) ?_
      refine lv_iload_n C.1 C.2.1 dX7_givesAll_4 rfl (lv_at hl 2 rfl) ?_
      refine lv_iload_n C.1 C.2.1 dX7_givesAll_5 rfl (lv_at hl 3 rfl) ?_
      refine cl_X7_valuesOf C hl.1 B q_815 ⟨Nat.le_of_ble_eq_true rfl, Nat.le_of_ble_eq_true rfl⟩ ⟨Nat.zero_le _, Nat.zero_le _⟩ (Nat.le_of_ble_eq_true rfl) k_o r_a1 r_a2 h dX7_givesAll_6 (fun x4 r_x4 _ _ h B => ?_)
      refine jr_icmp_ge (tgt := 52) C r_x1 r_x4 h dX7_givesAll_9 (by decide) (fun hc9 h => ?_) (fun hc9 h => ?_)
      · refine jr_iconst C dX7_givesAll_12 ?_
        refine lv_istore (lv' := [(4, .int (jI 0)), (3, .int (jI x1)), (0, .ref (jD G o)), (1, .int (jI a1)), (2, .int (jI a2))]) C.1 C.2.1 dX7_givesAll_13 hl (by decide) rfl (fun ls hl => ?_)
        obtain ⟨kx15, hkx15, h⟩ : ∃ kx15 : jM → Prop, (∀ (M7 : jM) (H : Heap) (locs : List Loc) (ls : Array Slot), kx15 M7 → Hp G M7 s.heap H locs → lv_has ls 5 [(3, .int (jI x1)), (0, .ref (jD G o)), (1, .int (jI a1)), (2, .int (jI a2))] → W p l e (rmm 2 46) s m args below meth c H locs 0 0 (MQ below (qV G k) args s 0 0 (gA G)) (F0 m 46 ls [])) ∧ lp_X7_givesAll_15 o a1 a2 x1 kx15 N 0 M2 := by
          refine ⟨_, ?_, h⟩
          intro M7 H locs ls h  B hl
          have o_M7 := B.2.2
          refine jr_iinc (k := 0) (lv' := fun x8 => [(3, .int (jI x8)), (0, .ref (jD G o)), (1, .int (jI a1)), (2, .int (jI a2))]) C h hl rfl (by decide) (fun _ => rfl) dX7_givesAll_46 (fun x8 h r_x8 ls hl => ?_)
          refine lv_goto (tgt := 2) C.1 C.2.1 dX7_givesAll_49 (by decide) ?_
          exact ih2 _ _ _ _ _ h r_x8 B (lv_sub hl [0, 1, 2, 3] rfl)
        have hL15 : ∀ (n : Nat) (x5 : Int) (M6 : jM) (H : Heap) (locs : List Loc) (ls : Array Slot), lp_X7_givesAll_15 o a1 a2 x1 kx15 n x5 M6 → jR x5 → Hp G M6 s.heap H locs → lv_has ls 5 [(4, .int (jI x5)), (3, .int (jI x1)), (0, .ref (jD G o)), (1, .int (jI a1)), (2, .int (jI a2))] → W p l e (rmm 2 46) s m args below meth c H locs 0 0 (MQ below (qV G k) args s 0 0 (gA G)) (F0 m 15 ls []) := by
          intro n
          induction n with
          | zero => intro x5 M6 H locs ls h; exact (show False from h).elim
          | succ n ih15 =>
            intro x5 M6 H locs ls h r_x5 B hl
            have o_M6 := B.2.2
            rw [lp_X7_givesAll_15] at h
            refine lv_iload C.1 C.2.1 dX7_givesAll_15 (lv_at hl 0 rfl) ?_
            refine lv_aload_n C.1 C.2.1 dX7_givesAll_17 rfl (lv_at hl 2 rfl) ?_
            refine lv_iload_n C.1 C.2.1 dX7_givesAll_18 rfl (lv_at hl 3 rfl) ?_
            refine lv_iload_n C.1 C.2.1 dX7_givesAll_19 rfl (lv_at hl 4 rfl) ?_
            refine lv_iload_n C.1 C.2.1 dX7_givesAll_20 rfl (lv_at hl 1 rfl) ?_
            refine cl_X7_subsOf C hl.1 B q_823 ⟨Nat.le_of_ble_eq_true rfl, Nat.le_of_ble_eq_true rfl⟩ ⟨Nat.zero_le _, Nat.zero_le _⟩ (Nat.le_of_ble_eq_true rfl) k_o r_a1 r_a2 r_x1 h dX7_givesAll_21 (fun x9 r_x9 _ _ h B => ?_)
            refine jr_icmp_ge (tgt := 46) C r_x5 r_x9 h dX7_givesAll_24 (by decide) (fun hc24 h => ?_) (fun hc24 h => ?_)
            · refine lv_aload_n C.1 C.2.1 dX7_givesAll_27 rfl (lv_at hl 2 rfl) ?_
              refine lv_aload_n C.1 C.2.1 dX7_givesAll_28 rfl (lv_at hl 2 rfl) ?_
              refine lv_iload_n C.1 C.2.1 dX7_givesAll_29 rfl (lv_at hl 3 rfl) ?_
              refine lv_iload_n C.1 C.2.1 dX7_givesAll_30 rfl (lv_at hl 4 rfl) ?_
              refine lv_iload_n C.1 C.2.1 dX7_givesAll_31 rfl (lv_at hl 1 rfl) ?_
              refine lv_iload C.1 C.2.1 dX7_givesAll_32 (lv_at hl 0 rfl) ?_
              refine cl_X7_numberOf C hl.1 B q_844 ⟨Nat.le_of_ble_eq_true rfl, Nat.le_of_ble_eq_true rfl⟩ ⟨Nat.zero_le _, Nat.zero_le _⟩ (Nat.le_of_ble_eq_true rfl) k_o r_a1 r_a2 r_x1 r_x5 h dX7_givesAll_34 (fun x10 r_x10 _ _ h B => ?_)
              refine cl_X7_gives C hl.1 B q_994 ⟨Nat.le_of_ble_eq_true rfl, Nat.le_of_ble_eq_true rfl⟩ ⟨Nat.zero_le _, Nat.zero_le _⟩ (Nat.le_of_ble_eq_true rfl) k_o r_x10 h dX7_givesAll_37 (fun M11 _ _ h B => ?_)
              have o_M11 := B.2.2
              refine jr_iinc (k := 0) (lv' := fun x12 => [(4, .int (jI x12)), (3, .int (jI x1)), (0, .ref (jD G o)), (1, .int (jI a1)), (2, .int (jI a2))]) C h hl rfl (by decide) (fun _ => rfl) dX7_givesAll_40 (fun x12 h r_x12 ls hl => ?_)
              refine lv_goto (tgt := 15) C.1 C.2.1 dX7_givesAll_43 (by decide) ?_
              exact ih15 _ _ _ _ _ h r_x12 B (lv_sub hl [0, 1, 2, 3, 4] rfl)
            · exact hkx15 _ _ _ _ h  B (lv_sub hl [1, 2, 3, 4] rfl)
        exact hL15 N _ _ _ _ _ h (jkc rfl) B (lv_sub hl [0, 1, 2, 3, 4] rfl)
      · exact hkx2 _ _ _ _ h  B (lv_sub hl [] rfl)
  exact hL2 N _ _ _ _ _ h (jkc rfl) B (lv_sub hl [0, 1, 2, 3] rfl)
theorem cl_X7_givesAll {p : Program} {l : Launch} {e : Env} {R : Room} {s : State} {m : MethodId} {args : Array Value} {below : List Frame} {meth : Method} {c : Code} {H : Heap} {locs : List Loc} {cells slots : Nat} {Q : State → Prop} {cc : ByteArray} {nL : Nat} {own : String} {G : jG} {H0 : Heap} {pc idx : Nat} {ls : Array Slot} {rest : List Value} {N : Nat} {M : jM} {o a1 a2 : Int} {k : jM → Prop} (C : Cx G p s args m c cc nL own) (hl : ls.size = nL) (B : Hp G M H0 H locs) (q1 : Cond.methodLink own idx yX7_givesAll ∈ tb) (hR : (rmm 2 46).frames + 1 ≤ R.frames ∧ 8 + (5 + 11) + (rmm 2 46).locals ≤ R.locals) (hcs : cells ≤ R.cells ∧ slots ≤ R.slots) (hW : (rest.map fun v => v.category).sum ≤ 8) (k_o : jK o = 8) (r_a1 : jR a1) (r_a2 : jR a2) (h : w_X7_givesAll N M o a1 a2 k) (hdg : decode cc pc = .ok (.invokevirtual idx, 3)) (kk : ∀ (M' : jM) (H1 : Heap) (locs1 : List Loc), k M' → Hp G M' H0 H1 locs1 → W p l e R s m args below meth c H1 locs1 cells slots Q (F0 m (pc + 3) ls rest)) : W p l e R s m args below meth c H locs cells slots Q (F0 m pc ls (.int (jI a2) :: .int (jI a1) :: .ref (jD G o) :: rest)) :=
  jr_callV B (jr_runV (o := o) (As := [.int (jI a1), .int (jI a2)]) (n := 2) C hl B (m_X7_givesAll B.2.2 k_o r_a1 r_a2 h) (jE8 k_o) (by omega) rfl q1 q_992 qs_61 q_993 q_8 ⟨by decide, by decide, by decide +kernel⟩ rfl ⟨rfl, rfl⟩ hR hcs rfl hW hdg) (fun M' H1 locs1 hk B1 => kk M' H1 locs1 hk B1)
def lp_X7_sumOf_19 (o : Int) (a1 : Int) (a2 : Int) (x2 : Int) (M : jM) (kx19 : Int → Prop) : Nat → Int → Int → Prop
  | 0, _, _ => False
  | n + 1, x5, x6 => (w_X7_subsOf M o a1 a2 x2 (fun x9 => (if x6 < x9 then (w_X7_numberOf M o a1 a2 x2 x6 (fun x10 => (jL (jW (x5 + x10)) (fun x11 => (jL (jW (x6 + 1)) (fun x12 => (lp_X7_sumOf_19 o a1 a2 x2 M kx19 n x11 x12))))))) else (kx19 x5))))
def lp_X7_sumOf_5 (N : Nat) (o : Int) (a1 : Int) (a2 : Int) (M : jM) (kx5 : Int → Prop) : Nat → Int → Int → Prop
  | 0, _, _ => False
  | n + 1, x1, x2 => (w_X7_valuesOf M o a1 a2 (fun x4 => (if x2 < x4 then (lp_X7_sumOf_19 o a1 a2 x2 M (fun (x7 : Int) => (jL (jW (x2 + 1)) (fun x8 => (lp_X7_sumOf_5 N o a1 a2 M kx5 n x7 x8)))) N x1 0) else (kx5 x1))))
def w_X7_sumOf (N : Nat) (M : jM) (o : Int) (a1 : Int) (a2 : Int) (k : Int → Prop) : Prop := (lp_X7_sumOf_5 N o a1 a2 M (fun (x3 : Int) => (k x3)) N 0 0)
set_option maxHeartbeats 4000000 in
set_option maxRecDepth 100000 in
theorem m_X7_sumOf {l : Launch} {G : jG} {N : Nat} {M : jM} {o a1 a2 : Int} {k : Int → Prop} (o_M : jOK M) (k_o : jK o = 8) (r_a1 : jR a1) (r_a2 : jR a2) (h : w_X7_sumOf N M o a1 a2 k) : Met l yX7_sumOf (wsG yX7_sumOf cX7_sumOf 6 (some .int)) (rmm 2 46) (jPc G M [.ref (jD G o), .int (jI a1), .int (jI a2)]) (qI G (fun r M' => M' = M ∧ k r)) 0 0 (gA G) := by
  refine jm_start RX7 rfl (by decide) (Nat.le_of_ble_eq_true rfl) o_M ?_
  intro p e s m args below meth c ls C hr hlocks hl B
  have hl : lv_has ls 6 [(0, .ref (jD G o)), (1, .int (jI a1)), (2, .int (jI a2))] := hl
  unfold w_X7_sumOf at h
  refine jr_iconst C dX7_sumOf_0 ?_
  refine lv_istore_n (lv' := [(3, .int (jI 0)), (0, .ref (jD G o)), (1, .int (jI a1)), (2, .int (jI a2))]) C.1 C.2.1 dX7_sumOf_1 rfl hl (by decide) rfl (fun ls hl => ?_)
  refine jr_iconst C dX7_sumOf_2 ?_
  refine lv_istore (lv' := [(4, .int (jI 0)), (3, .int (jI 0)), (0, .ref (jD G o)), (1, .int (jI a1)), (2, .int (jI a2))]) C.1 C.2.1 dX7_sumOf_3 hl (by decide) rfl (fun ls hl => ?_)
  obtain ⟨kx5, hkx5, h⟩ : ∃ kx5 : Int → Prop, (∀ (x3 : Int) (H : Heap) (locs : List Loc) (ls : Array Slot), kx5 x3 → jR x3 → Hp G M s.heap H locs → lv_has ls 6 [(3, .int (jI x3))] → W p l e (rmm 2 46) s m args below meth c H locs 0 0 (MQ below (qI G (fun r M' => M' = M ∧ k r)) args s 0 0 (gA G)) (F0 m 57 ls [])) ∧ lp_X7_sumOf_5 N o a1 a2 M kx5 N 0 0 := by
    refine ⟨_, ?_, h⟩
    intro x3 H locs ls h r_x3 B hl
    refine lv_iload_n C.1 C.2.1 dX7_sumOf_57 rfl (lv_at hl 0 rfl) ?_
    exact jr_iret C B hr hlocks r_x3 ⟨rfl, h⟩ dX7_sumOf_58
  have hL5 : ∀ (n : Nat) (x1 : Int) (x2 : Int) (H : Heap) (locs : List Loc) (ls : Array Slot), lp_X7_sumOf_5 N o a1 a2 M kx5 n x1 x2 → jR x1 → jR x2 → Hp G M s.heap H locs → lv_has ls 6 [(3, .int (jI x1)), (4, .int (jI x2)), (0, .ref (jD G o)), (1, .int (jI a1)), (2, .int (jI a2))] → W p l e (rmm 2 46) s m args below meth c H locs 0 0 (MQ below (qI G (fun r M' => M' = M ∧ k r)) args s 0 0 (gA G)) (F0 m 5 ls []) := by
    intro n
    induction n with
    | zero => intro x1 x2 H locs ls h; exact (show False from h).elim
    | succ n ih5 =>
      intro x1 x2 H locs ls h r_x1 r_x2 B hl
      rw [lp_X7_sumOf_5] at h
      refine lv_iload C.1 C.2.1 dX7_sumOf_5 (lv_at hl 1 rfl) ?_
      refine lv_aload_n C.1 C.2.1 dX7_sumOf_7 rfl (lv_at hl 2 rfl) ?_
      refine lv_iload_n C.1 C.2.1 dX7_sumOf_8 rfl (lv_at hl 3 rfl) ?_
      refine lv_iload_n C.1 C.2.1 dX7_sumOf_9 rfl (lv_at hl 4 rfl) ?_
      refine cl_X7_valuesOf C hl.1 B q_815 ⟨Nat.le_of_ble_eq_true rfl, Nat.le_of_ble_eq_true rfl⟩ ⟨Nat.zero_le _, Nat.zero_le _⟩ (Nat.le_of_ble_eq_true rfl) k_o r_a1 r_a2 h dX7_sumOf_10 (fun x4 r_x4 _ _ h B => ?_)
      refine jr_icmp_ge (tgt := 57) C r_x2 r_x4 h dX7_sumOf_13 (by decide) (fun hc13 h => ?_) (fun hc13 h => ?_)
      · refine jr_iconst C dX7_sumOf_16 ?_
        refine lv_istore (lv' := [(5, .int (jI 0)), (3, .int (jI x1)), (4, .int (jI x2)), (0, .ref (jD G o)), (1, .int (jI a1)), (2, .int (jI a2))]) C.1 C.2.1 dX7_sumOf_17 hl (by decide) rfl (fun ls hl => ?_)
        obtain ⟨kx19, hkx19, h⟩ : ∃ kx19 : Int → Prop, (∀ (x7 : Int) (H : Heap) (locs : List Loc) (ls : Array Slot), kx19 x7 → jR x7 → Hp G M s.heap H locs → lv_has ls 6 [(3, .int (jI x7)), (4, .int (jI x2)), (0, .ref (jD G o)), (1, .int (jI a1)), (2, .int (jI a2))] → W p l e (rmm 2 46) s m args below meth c H locs 0 0 (MQ below (qI G (fun r M' => M' = M ∧ k r)) args s 0 0 (gA G)) (F0 m 51 ls [])) ∧ lp_X7_sumOf_19 o a1 a2 x2 M kx19 N x1 0 := by
          refine ⟨_, ?_, h⟩
          intro x7 H locs ls h r_x7 B hl
          refine jr_iinc (k := 1) (lv' := fun x8 => [(4, .int (jI x8)), (3, .int (jI x7)), (0, .ref (jD G o)), (1, .int (jI a1)), (2, .int (jI a2))]) C h hl rfl (by decide) (fun _ => rfl) dX7_sumOf_51 (fun x8 h r_x8 ls hl => ?_)
          refine lv_goto (tgt := 5) C.1 C.2.1 dX7_sumOf_54 (by decide) ?_
          exact ih5 _ _ _ _ _ h r_x7 r_x8 B (lv_sub hl [1, 0, 2, 3, 4] rfl)
        have hL19 : ∀ (n : Nat) (x5 : Int) (x6 : Int) (H : Heap) (locs : List Loc) (ls : Array Slot), lp_X7_sumOf_19 o a1 a2 x2 M kx19 n x5 x6 → jR x5 → jR x6 → Hp G M s.heap H locs → lv_has ls 6 [(3, .int (jI x5)), (5, .int (jI x6)), (4, .int (jI x2)), (0, .ref (jD G o)), (1, .int (jI a1)), (2, .int (jI a2))] → W p l e (rmm 2 46) s m args below meth c H locs 0 0 (MQ below (qI G (fun r M' => M' = M ∧ k r)) args s 0 0 (gA G)) (F0 m 19 ls []) := by
          intro n
          induction n with
          | zero => intro x5 x6 H locs ls h; exact (show False from h).elim
          | succ n ih19 =>
            intro x5 x6 H locs ls h r_x5 r_x6 B hl
            rw [lp_X7_sumOf_19] at h
            refine lv_iload C.1 C.2.1 dX7_sumOf_19 (lv_at hl 1 rfl) ?_
            refine lv_aload_n C.1 C.2.1 dX7_sumOf_21 rfl (lv_at hl 3 rfl) ?_
            refine lv_iload_n C.1 C.2.1 dX7_sumOf_22 rfl (lv_at hl 4 rfl) ?_
            refine lv_iload_n C.1 C.2.1 dX7_sumOf_23 rfl (lv_at hl 5 rfl) ?_
            refine lv_iload C.1 C.2.1 dX7_sumOf_24 (lv_at hl 2 rfl) ?_
            refine cl_X7_subsOf C hl.1 B q_823 ⟨Nat.le_of_ble_eq_true rfl, Nat.le_of_ble_eq_true rfl⟩ ⟨Nat.zero_le _, Nat.zero_le _⟩ (Nat.le_of_ble_eq_true rfl) k_o r_a1 r_a2 r_x2 h dX7_sumOf_26 (fun x9 r_x9 _ _ h B => ?_)
            refine jr_icmp_ge (tgt := 51) C r_x6 r_x9 h dX7_sumOf_29 (by decide) (fun hc29 h => ?_) (fun hc29 h => ?_)
            · refine lv_iload_n C.1 C.2.1 dX7_sumOf_32 rfl (lv_at hl 0 rfl) ?_
              refine lv_aload_n C.1 C.2.1 dX7_sumOf_33 rfl (lv_at hl 3 rfl) ?_
              refine lv_iload_n C.1 C.2.1 dX7_sumOf_34 rfl (lv_at hl 4 rfl) ?_
              refine lv_iload_n C.1 C.2.1 dX7_sumOf_35 rfl (lv_at hl 5 rfl) ?_
              refine lv_iload C.1 C.2.1 dX7_sumOf_36 (lv_at hl 2 rfl) ?_
              refine lv_iload C.1 C.2.1 dX7_sumOf_38 (lv_at hl 1 rfl) ?_
              refine cl_X7_numberOf C hl.1 B q_844 ⟨Nat.le_of_ble_eq_true rfl, Nat.le_of_ble_eq_true rfl⟩ ⟨Nat.zero_le _, Nat.zero_le _⟩ (Nat.le_of_ble_eq_true rfl) k_o r_a1 r_a2 r_x2 r_x6 h dX7_sumOf_40 (fun x10 r_x10 _ _ h B => ?_)
              refine jr_iadd C dX7_sumOf_43 ?_
              refine jr_nm h (jW_R _) (fun x11 h r_x11 => ?_)
              refine lv_istore_n (lv' := [(3, .int (jI x11)), (5, .int (jI x6)), (4, .int (jI x2)), (0, .ref (jD G o)), (1, .int (jI a1)), (2, .int (jI a2))]) C.1 C.2.1 dX7_sumOf_44 rfl hl (by decide) rfl (fun ls hl => ?_)
              refine jr_iinc (k := 1) (lv' := fun x12 => [(5, .int (jI x12)), (3, .int (jI x11)), (4, .int (jI x2)), (0, .ref (jD G o)), (1, .int (jI a1)), (2, .int (jI a2))]) C h hl rfl (by decide) (fun _ => rfl) dX7_sumOf_45 (fun x12 h r_x12 ls hl => ?_)
              refine lv_goto (tgt := 19) C.1 C.2.1 dX7_sumOf_48 (by decide) ?_
              exact ih19 _ _ _ _ _ h r_x11 r_x12 B (lv_sub hl [1, 0, 2, 3, 4, 5] rfl)
            · exact hkx19 _ _ _ _ h r_x5 B (lv_sub hl [0, 2, 3, 4, 5] rfl)
        exact hL19 N _ _ _ _ _ h r_x1 (jkc rfl) B (lv_sub hl [1, 0, 2, 3, 4, 5] rfl)
      · exact hkx5 _ _ _ _ h r_x1 B (lv_sub hl [0] rfl)
  exact hL5 N _ _ _ _ _ h (jkc rfl) (jkc rfl) B (lv_sub hl [1, 0, 2, 3, 4] rfl)
theorem cl_X7_sumOf {p : Program} {l : Launch} {e : Env} {R : Room} {s : State} {m : MethodId} {args : Array Value} {below : List Frame} {meth : Method} {c : Code} {H : Heap} {locs : List Loc} {cells slots : Nat} {Q : State → Prop} {cc : ByteArray} {nL : Nat} {own : String} {G : jG} {H0 : Heap} {pc idx : Nat} {ls : Array Slot} {rest : List Value} {N : Nat} {M : jM} {o a1 a2 : Int} {k : Int → Prop} (C : Cx G p s args m c cc nL own) (hl : ls.size = nL) (B : Hp G M H0 H locs) (q1 : Cond.methodLink own idx yX7_sumOf ∈ tb) (hR : (rmm 2 46).frames + 1 ≤ R.frames ∧ 8 + (6 + 11) + (rmm 2 46).locals ≤ R.locals) (hcs : cells ≤ R.cells ∧ slots ≤ R.slots) (hW : (rest.map fun v => v.category).sum ≤ 8) (k_o : jK o = 8) (r_a1 : jR a1) (r_a2 : jR a2) (h : w_X7_sumOf N M o a1 a2 k) (hdg : decode cc pc = .ok (.invokevirtual idx, 3)) (kk : ∀ (r : Int), jR r → ∀ (H1 : Heap) (locs1 : List Loc), k r → Hp G M H0 H1 locs1 → W p l e R s m args below meth c H1 locs1 cells slots Q (F0 m (pc + 3) ls (.int (jI r) :: rest))) : W p l e R s m args below meth c H locs cells slots Q (F0 m pc ls (.int (jI a2) :: .int (jI a1) :: .ref (jD G o) :: rest)) :=
  jr_callI B (jr_runV (o := o) (As := [.int (jI a1), .int (jI a2)]) (n := 2) C hl B (m_X7_sumOf B.2.2 k_o r_a1 r_a2 h) (jE8 k_o) (by omega) rfl q1 q_1000 qs_63 q_1001 q_8 ⟨by decide, by decide, by decide +kernel⟩ rfl ⟨rfl, rfl⟩ hR hcs rfl hW hdg) (fun r M' H1 locs1 hr hk B1 => by obtain ⟨rfl, hk⟩ := hk; exact kk r hr H1 locs1 hk B1)
def lp_X7_givesGreatest_25 (o : Int) (a1 : Int) (a2 : Int) (x1 : Int) (M2 : jM) (kx25 : Int → Prop) : Nat → Int → Int → Prop
  | 0, _, _ => False
  | n + 1, x6, x7 => (w_X7_subsOf M2 o a1 a2 x1 (fun x11 => (if x7 < x11 then (w_X7_numberOf M2 o a1 a2 x1 x7 (fun x12 => (if x12 ≤ x6 then (jL (jW (x7 + 1)) (fun x13 => (lp_X7_givesGreatest_25 o a1 a2 x1 M2 kx25 n x6 x13))) else (w_X7_numberOf M2 o a1 a2 x1 x7 (fun x14 => (jL (jW (x7 + 1)) (fun x15 => (lp_X7_givesGreatest_25 o a1 a2 x1 M2 kx25 n x14 x15)))))))) else (kx25 x6))))
def lp_X7_givesGreatest_2 (N : Nat) (o : Int) (a1 : Int) (a2 : Int) (kx2 : jM → Prop) : Nat → Int → jM → Prop
  | 0, _, _ => False
  | n + 1, x1, M2 => (w_X7_valuesOf M2 o a1 a2 (fun x4 => (if x1 < x4 then (w_X7_numberOf M2 o a1 a2 x1 0 (fun x5 => (lp_X7_givesGreatest_25 o a1 a2 x1 M2 (fun (x8 : Int) => (w_X7_gives M2 o x8 (fun M9 => (jL (jW (x1 + 1)) (fun x10 => (lp_X7_givesGreatest_2 N o a1 a2 kx2 n x10 M9)))))) N x5 1))) else (kx2 M2))))
def w_X7_givesGreatest (N : Nat) (M : jM) (o : Int) (a1 : Int) (a2 : Int) (k : jM → Prop) : Prop := (lp_X7_givesGreatest_2 N o a1 a2 (fun (M3 : jM) => (k M3)) N 0 M)
set_option maxHeartbeats 4000000 in
set_option maxRecDepth 100000 in
theorem m_X7_givesGreatest {l : Launch} {G : jG} {N : Nat} {M : jM} {o a1 a2 : Int} {k : jM → Prop} (o_M : jOK M) (k_o : jK o = 8) (r_a1 : jR a1) (r_a2 : jR a2) (h : w_X7_givesGreatest N M o a1 a2 k) : Met l yX7_givesGreatest (wsG yX7_givesGreatest cX7_givesGreatest 6 none) (rmm 2 46) (jPc G M [.ref (jD G o), .int (jI a1), .int (jI a2)]) (qV G k) 0 0 (gA G) := by
  refine jm_start RX7 rfl (by decide) (Nat.le_of_ble_eq_true rfl) o_M ?_
  intro p e s m args below meth c ls C hr hlocks hl B
  have hl : lv_has ls 6 [(0, .ref (jD G o)), (1, .int (jI a1)), (2, .int (jI a2))] := hl
  unfold w_X7_givesGreatest at h
  refine jr_iconst C dX7_givesGreatest_0 ?_
  refine lv_istore_n (lv' := [(3, .int (jI 0)), (0, .ref (jD G o)), (1, .int (jI a1)), (2, .int (jI a2))]) C.1 C.2.1 dX7_givesGreatest_1 rfl hl (by decide) rfl (fun ls hl => ?_)
  obtain ⟨kx2, hkx2, h⟩ : ∃ kx2 : jM → Prop, (∀ (M3 : jM) (H : Heap) (locs : List Loc) (ls : Array Slot), kx2 M3 → Hp G M3 s.heap H locs → lv_has ls 6 [] → W p l e (rmm 2 46) s m args below meth c H locs 0 0 (MQ below (qV G k) args s 0 0 (gA G)) (F0 m 85 ls [])) ∧ lp_X7_givesGreatest_2 N o a1 a2 kx2 N 0 M := by
    refine ⟨_, ?_, h⟩
    intro M3 H locs ls h  B hl
    have o_M3 := B.2.2
    exact jr_vret C B hr hlocks h dX7_givesGreatest_85
  have hL2 : ∀ (n : Nat) (x1 : Int) (M2 : jM) (H : Heap) (locs : List Loc) (ls : Array Slot), lp_X7_givesGreatest_2 N o a1 a2 kx2 n x1 M2 → jR x1 → Hp G M2 s.heap H locs → lv_has ls 6 [(3, .int (jI x1)), (0, .ref (jD G o)), (1, .int (jI a1)), (2, .int (jI a2))] → W p l e (rmm 2 46) s m args below meth c H locs 0 0 (MQ below (qV G k) args s 0 0 (gA G)) (F0 m 2 ls []) := by
    intro n
    induction n with
    | zero => intro x1 M2 H locs ls h; exact (show False from h).elim
    | succ n ih2 =>
      intro x1 M2 H locs ls h r_x1 B hl
      have o_M2 := B.2.2
      rw [lp_X7_givesGreatest_2] at h
      refine lv_iload_n C.1 C.2.1 dX7_givesGreatest_2 rfl (lv_at hl 0 rfl) ?_
      refine lv_aload_n C.1 C.2.1 dX7_givesGreatest_3 rfl (lv_at hl 1 rfl) ?_
      refine lv_iload_n C.1 C.2.1 dX7_givesGreatest_4 rfl (lv_at hl 2 rfl) ?_
      refine lv_iload_n C.1 C.2.1 dX7_givesGreatest_5 rfl (lv_at hl 3 rfl) ?_
      refine cl_X7_valuesOf C hl.1 B q_815 ⟨Nat.le_of_ble_eq_true rfl, Nat.le_of_ble_eq_true rfl⟩ ⟨Nat.zero_le _, Nat.zero_le _⟩ (Nat.le_of_ble_eq_true rfl) k_o r_a1 r_a2 h dX7_givesGreatest_6 (fun x4 r_x4 _ _ h B => ?_)
      refine jr_icmp_ge (tgt := 85) C r_x1 r_x4 h dX7_givesGreatest_9 (by decide) (fun hc9 h => ?_) (fun hc9 h => ?_)
      · refine lv_aload_n C.1 C.2.1 dX7_givesGreatest_12 rfl (lv_at hl 1 rfl) ?_
        refine lv_iload_n C.1 C.2.1 dX7_givesGreatest_13 rfl (lv_at hl 2 rfl) ?_
        refine lv_iload_n C.1 C.2.1 dX7_givesGreatest_14 rfl (lv_at hl 3 rfl) ?_
        refine lv_iload_n C.1 C.2.1 dX7_givesGreatest_15 rfl (lv_at hl 0 rfl) ?_
        refine jr_iconst C dX7_givesGreatest_16 ?_
        refine cl_X7_numberOf C hl.1 B q_844 ⟨Nat.le_of_ble_eq_true rfl, Nat.le_of_ble_eq_true rfl⟩ ⟨Nat.zero_le _, Nat.zero_le _⟩ (Nat.le_of_ble_eq_true rfl) k_o r_a1 r_a2 r_x1 (jkc rfl) h dX7_givesGreatest_17 (fun x5 r_x5 _ _ h B => ?_)
        refine lv_istore (lv' := [(4, .int (jI x5)), (3, .int (jI x1)), (0, .ref (jD G o)), (1, .int (jI a1)), (2, .int (jI a2))]) C.1 C.2.1 dX7_givesGreatest_20 hl (by decide) rfl (fun ls hl => ?_)
        refine jr_iconst C dX7_givesGreatest_22 ?_
        refine lv_istore (lv' := [(5, .int (jI 1)), (4, .int (jI x5)), (3, .int (jI x1)), (0, .ref (jD G o)), (1, .int (jI a1)), (2, .int (jI a2))]) C.1 C.2.1 dX7_givesGreatest_23 hl (by decide) rfl (fun ls hl => ?_)
        obtain ⟨kx25, hkx25, h⟩ : ∃ kx25 : Int → Prop, (∀ (x8 : Int) (H : Heap) (locs : List Loc) (ls : Array Slot), kx25 x8 → jR x8 → Hp G M2 s.heap H locs → lv_has ls 6 [(4, .int (jI x8)), (3, .int (jI x1)), (0, .ref (jD G o)), (1, .int (jI a1)), (2, .int (jI a2))] → W p l e (rmm 2 46) s m args below meth c H locs 0 0 (MQ below (qV G k) args s 0 0 (gA G)) (F0 m 73 ls [])) ∧ lp_X7_givesGreatest_25 o a1 a2 x1 M2 kx25 N x5 1 := by
          refine ⟨_, ?_, h⟩
          intro x8 H locs ls h r_x8 B hl
          refine lv_aload_n C.1 C.2.1 dX7_givesGreatest_73 rfl (lv_at hl 2 rfl) ?_
          refine lv_iload C.1 C.2.1 dX7_givesGreatest_74 (lv_at hl 0 rfl) ?_
          refine cl_X7_gives C hl.1 B q_994 ⟨Nat.le_of_ble_eq_true rfl, Nat.le_of_ble_eq_true rfl⟩ ⟨Nat.zero_le _, Nat.zero_le _⟩ (Nat.le_of_ble_eq_true rfl) k_o r_x8 h dX7_givesGreatest_76 (fun M9 _ _ h B => ?_)
          have o_M9 := B.2.2
          refine jr_iinc (k := 1) (lv' := fun x10 => [(3, .int (jI x10)), (4, .int (jI x8)), (0, .ref (jD G o)), (1, .int (jI a1)), (2, .int (jI a2))]) C h hl rfl (by decide) (fun _ => rfl) dX7_givesGreatest_79 (fun x10 h r_x10 ls hl => ?_)
          refine lv_goto (tgt := 2) C.1 C.2.1 dX7_givesGreatest_82 (by decide) ?_
          exact ih2 _ _ _ _ _ h r_x10 B (lv_sub hl [0, 2, 3, 4] rfl)
        have hL25 : ∀ (n : Nat) (x6 : Int) (x7 : Int) (H : Heap) (locs : List Loc) (ls : Array Slot), lp_X7_givesGreatest_25 o a1 a2 x1 M2 kx25 n x6 x7 → jR x6 → jR x7 → Hp G M2 s.heap H locs → lv_has ls 6 [(4, .int (jI x6)), (5, .int (jI x7)), (3, .int (jI x1)), (0, .ref (jD G o)), (1, .int (jI a1)), (2, .int (jI a2))] → W p l e (rmm 2 46) s m args below meth c H locs 0 0 (MQ below (qV G k) args s 0 0 (gA G)) (F0 m 25 ls []) := by
          intro n
          induction n with
          | zero => intro x6 x7 H locs ls h; exact (show False from h).elim
          | succ n ih25 =>
            intro x6 x7 H locs ls h r_x6 r_x7 B hl
            rw [lp_X7_givesGreatest_25] at h
            refine lv_iload C.1 C.2.1 dX7_givesGreatest_25 (lv_at hl 1 rfl) ?_
            refine lv_aload_n C.1 C.2.1 dX7_givesGreatest_27 rfl (lv_at hl 3 rfl) ?_
            refine lv_iload_n C.1 C.2.1 dX7_givesGreatest_28 rfl (lv_at hl 4 rfl) ?_
            refine lv_iload_n C.1 C.2.1 dX7_givesGreatest_29 rfl (lv_at hl 5 rfl) ?_
            refine lv_iload_n C.1 C.2.1 dX7_givesGreatest_30 rfl (lv_at hl 2 rfl) ?_
            refine cl_X7_subsOf C hl.1 B q_823 ⟨Nat.le_of_ble_eq_true rfl, Nat.le_of_ble_eq_true rfl⟩ ⟨Nat.zero_le _, Nat.zero_le _⟩ (Nat.le_of_ble_eq_true rfl) k_o r_a1 r_a2 r_x1 h dX7_givesGreatest_31 (fun x11 r_x11 _ _ h B => ?_)
            refine jr_icmp_ge (tgt := 73) C r_x7 r_x11 h dX7_givesGreatest_34 (by decide) (fun hc34 h => ?_) (fun hc34 h => ?_)
            · refine lv_aload_n C.1 C.2.1 dX7_givesGreatest_37 rfl (lv_at hl 3 rfl) ?_
              refine lv_iload_n C.1 C.2.1 dX7_givesGreatest_38 rfl (lv_at hl 4 rfl) ?_
              refine lv_iload_n C.1 C.2.1 dX7_givesGreatest_39 rfl (lv_at hl 5 rfl) ?_
              refine lv_iload_n C.1 C.2.1 dX7_givesGreatest_40 rfl (lv_at hl 2 rfl) ?_
              refine lv_iload C.1 C.2.1 dX7_givesGreatest_41 (lv_at hl 1 rfl) ?_
              refine cl_X7_numberOf C hl.1 B q_844 ⟨Nat.le_of_ble_eq_true rfl, Nat.le_of_ble_eq_true rfl⟩ ⟨Nat.zero_le _, Nat.zero_le _⟩ (Nat.le_of_ble_eq_true rfl) k_o r_a1 r_a2 r_x1 r_x7 h dX7_givesGreatest_43 (fun x12 r_x12 _ _ h B => ?_)
              refine lv_iload C.1 C.2.1 dX7_givesGreatest_46 (lv_at hl 0 rfl) ?_
              refine jr_icmp_le (tgt := 63) C r_x12 r_x6 h dX7_givesGreatest_48 (by decide) (fun hc48 h => ?_) (fun hc48 h => ?_)
              · refine lv_iload C.1 C.2.1 dX7_givesGreatest_63 (lv_at hl 0 rfl) ?_
                refine lv_istore (lv' := [(4, .int (jI x6)), (5, .int (jI x7)), (3, .int (jI x1)), (0, .ref (jD G o)), (1, .int (jI a1)), (2, .int (jI a2))]) C.1 C.2.1 dX7_givesGreatest_65 hl (by decide) rfl (fun ls hl => ?_)
                refine jr_iinc (k := 1) (lv' := fun x13 => [(5, .int (jI x13)), (4, .int (jI x6)), (3, .int (jI x1)), (0, .ref (jD G o)), (1, .int (jI a1)), (2, .int (jI a2))]) C h hl rfl (by decide) (fun _ => rfl) dX7_givesGreatest_67 (fun x13 h r_x13 ls hl => ?_)
                refine lv_goto (tgt := 25) C.1 C.2.1 dX7_givesGreatest_70 (by decide) ?_
                exact ih25 _ _ _ _ _ h r_x6 r_x13 B (lv_sub hl [1, 0, 2, 3, 4, 5] rfl)
              · refine lv_aload_n C.1 C.2.1 dX7_givesGreatest_51 rfl (lv_at hl 3 rfl) ?_
                refine lv_iload_n C.1 C.2.1 dX7_givesGreatest_52 rfl (lv_at hl 4 rfl) ?_
                refine lv_iload_n C.1 C.2.1 dX7_givesGreatest_53 rfl (lv_at hl 5 rfl) ?_
                refine lv_iload_n C.1 C.2.1 dX7_givesGreatest_54 rfl (lv_at hl 2 rfl) ?_
                refine lv_iload C.1 C.2.1 dX7_givesGreatest_55 (lv_at hl 1 rfl) ?_
                refine cl_X7_numberOf C hl.1 B q_844 ⟨Nat.le_of_ble_eq_true rfl, Nat.le_of_ble_eq_true rfl⟩ ⟨Nat.zero_le _, Nat.zero_le _⟩ (Nat.le_of_ble_eq_true rfl) k_o r_a1 r_a2 r_x1 r_x7 h dX7_givesGreatest_57 (fun x14 r_x14 _ _ h B => ?_)
                refine lv_goto (tgt := 65) C.1 C.2.1 dX7_givesGreatest_60 (by decide) ?_
                refine lv_istore (lv' := [(4, .int (jI x14)), (5, .int (jI x7)), (3, .int (jI x1)), (0, .ref (jD G o)), (1, .int (jI a1)), (2, .int (jI a2))]) C.1 C.2.1 dX7_givesGreatest_65 hl (by decide) rfl (fun ls hl => ?_)
                refine jr_iinc (k := 1) (lv' := fun x15 => [(5, .int (jI x15)), (4, .int (jI x14)), (3, .int (jI x1)), (0, .ref (jD G o)), (1, .int (jI a1)), (2, .int (jI a2))]) C h hl rfl (by decide) (fun _ => rfl) dX7_givesGreatest_67 (fun x15 h r_x15 ls hl => ?_)
                refine lv_goto (tgt := 25) C.1 C.2.1 dX7_givesGreatest_70 (by decide) ?_
                exact ih25 _ _ _ _ _ h r_x14 r_x15 B (lv_sub hl [1, 0, 2, 3, 4, 5] rfl)
            · exact hkx25 _ _ _ _ h r_x6 B (lv_sub hl [0, 2, 3, 4, 5] rfl)
        exact hL25 N _ _ _ _ _ h r_x5 (jkc rfl) B (lv_sub hl [1, 0, 2, 3, 4, 5] rfl)
      · exact hkx2 _ _ _ _ h  B (lv_sub hl [] rfl)
  exact hL2 N _ _ _ _ _ h (jkc rfl) B (lv_sub hl [0, 1, 2, 3] rfl)
theorem cl_X7_givesGreatest {p : Program} {l : Launch} {e : Env} {R : Room} {s : State} {m : MethodId} {args : Array Value} {below : List Frame} {meth : Method} {c : Code} {H : Heap} {locs : List Loc} {cells slots : Nat} {Q : State → Prop} {cc : ByteArray} {nL : Nat} {own : String} {G : jG} {H0 : Heap} {pc idx : Nat} {ls : Array Slot} {rest : List Value} {N : Nat} {M : jM} {o a1 a2 : Int} {k : jM → Prop} (C : Cx G p s args m c cc nL own) (hl : ls.size = nL) (B : Hp G M H0 H locs) (q1 : Cond.methodLink own idx yX7_givesGreatest ∈ tb) (hR : (rmm 2 46).frames + 1 ≤ R.frames ∧ 8 + (6 + 11) + (rmm 2 46).locals ≤ R.locals) (hcs : cells ≤ R.cells ∧ slots ≤ R.slots) (hW : (rest.map fun v => v.category).sum ≤ 8) (k_o : jK o = 8) (r_a1 : jR a1) (r_a2 : jR a2) (h : w_X7_givesGreatest N M o a1 a2 k) (hdg : decode cc pc = .ok (.invokevirtual idx, 3)) (kk : ∀ (M' : jM) (H1 : Heap) (locs1 : List Loc), k M' → Hp G M' H0 H1 locs1 → W p l e R s m args below meth c H1 locs1 cells slots Q (F0 m (pc + 3) ls rest)) : W p l e R s m args below meth c H locs cells slots Q (F0 m pc ls (.int (jI a2) :: .int (jI a1) :: .ref (jD G o) :: rest)) :=
  jr_callV B (jr_runV (o := o) (As := [.int (jI a1), .int (jI a2)]) (n := 2) C hl B (m_X7_givesGreatest B.2.2 k_o r_a1 r_a2 h) (jE8 k_o) (by omega) rfl q1 q_1004 qs_64 q_1005 q_8 ⟨by decide, by decide, by decide +kernel⟩ rfl ⟨rfl, rfl⟩ hR hcs rfl hW hdg) (fun M' H1 locs1 hk B1 => kk M' H1 locs1 hk B1)
def lp_X7_givesProducts_3 (o : Int) (a1 : Int) (a2 : Int) (a3 : Int) (kx3 : jM → Prop) : Nat → Int → jM → Prop
  | 0, _, _ => False
  | n + 1, x1, M2 => (w_X7_hasValue M2 o a1 a2 x1 (fun x4 => (if x4 = 0 then (kx3 M2) else (w_X7_hasValue M2 o a1 a3 x1 (fun x5 => (if x5 = 0 then (kx3 M2) else (w_X7_numberOf M2 o a1 a2 x1 0 (fun x6 => (w_X7_numberOf M2 o a1 a3 x1 0 (fun x7 => (w_X7_gives M2 o (jW (x6 * x7)) (fun M8 => (jL (jW (x1 + 1)) (fun x9 => (lp_X7_givesProducts_3 o a1 a2 a3 kx3 n x9 M8)))))))))))))))
def w_X7_givesProducts (N : Nat) (M : jM) (o : Int) (a1 : Int) (a2 : Int) (a3 : Int) (k : jM → Prop) : Prop := (lp_X7_givesProducts_3 o a1 a2 a3 (fun (M3 : jM) => (k M3)) N 0 M)
set_option maxHeartbeats 4000000 in
set_option maxRecDepth 100000 in
theorem m_X7_givesProducts {l : Launch} {G : jG} {N : Nat} {M : jM} {o a1 a2 a3 : Int} {k : jM → Prop} (o_M : jOK M) (k_o : jK o = 8) (r_a1 : jR a1) (r_a2 : jR a2) (r_a3 : jR a3) (h : w_X7_givesProducts N M o a1 a2 a3 k) : Met l yX7_givesProducts (wsG yX7_givesProducts cX7_givesProducts 5 none) (rmm 3 67) (jPc G M [.ref (jD G o), .int (jI a1), .int (jI a2), .int (jI a3)]) (qV G k) 0 0 (gA G) := by
  refine jm_start RX7 rfl (by decide) (Nat.le_of_ble_eq_true rfl) o_M ?_
  intro p e s m args below meth c ls C hr hlocks hl B
  have hl : lv_has ls 5 [(0, .ref (jD G o)), (1, .int (jI a1)), (2, .int (jI a2)), (3, .int (jI a3))] := hl
  unfold w_X7_givesProducts at h
  refine jr_iconst C dX7_givesProducts_0 ?_
  refine lv_istore (lv' := [(4, .int (jI 0)), (0, .ref (jD G o)), (1, .int (jI a1)), (2, .int (jI a2)), (3, .int (jI a3))]) C.1 C.2.1 dX7_givesProducts_1 hl (by decide) rfl (fun ls hl => ?_)
  obtain ⟨kx3, hkx3, h⟩ : ∃ kx3 : jM → Prop, (∀ (M3 : jM) (H : Heap) (locs : List Loc) (ls : Array Slot), kx3 M3 → Hp G M3 s.heap H locs → lv_has ls 5 [] → W p l e (rmm 3 67) s m args below meth c H locs 0 0 (MQ below (qV G k) args s 0 0 (gA G)) (F0 m 54 ls [])) ∧ lp_X7_givesProducts_3 o a1 a2 a3 kx3 N 0 M := by
    refine ⟨_, ?_, h⟩
    intro M3 H locs ls h  B hl
    have o_M3 := B.2.2
    exact jr_vret C B hr hlocks h dX7_givesProducts_54
  have hL3 : ∀ (n : Nat) (x1 : Int) (M2 : jM) (H : Heap) (locs : List Loc) (ls : Array Slot), lp_X7_givesProducts_3 o a1 a2 a3 kx3 n x1 M2 → jR x1 → Hp G M2 s.heap H locs → lv_has ls 5 [(4, .int (jI x1)), (0, .ref (jD G o)), (1, .int (jI a1)), (2, .int (jI a2)), (3, .int (jI a3))] → W p l e (rmm 3 67) s m args below meth c H locs 0 0 (MQ below (qV G k) args s 0 0 (gA G)) (F0 m 3 ls []) := by
    intro n
    induction n with
    | zero => intro x1 M2 H locs ls h; exact (show False from h).elim
    | succ n ih3 =>
      intro x1 M2 H locs ls h r_x1 B hl
      have o_M2 := B.2.2
      rw [lp_X7_givesProducts_3] at h
      refine lv_aload_n C.1 C.2.1 dX7_givesProducts_3 rfl (lv_at hl 1 rfl) ?_
      refine lv_iload_n C.1 C.2.1 dX7_givesProducts_4 rfl (lv_at hl 2 rfl) ?_
      refine lv_iload_n C.1 C.2.1 dX7_givesProducts_5 rfl (lv_at hl 3 rfl) ?_
      refine lv_iload C.1 C.2.1 dX7_givesProducts_6 (lv_at hl 0 rfl) ?_
      refine cl_X7_hasValue C hl.1 B q_819 ⟨Nat.le_of_ble_eq_true rfl, Nat.le_of_ble_eq_true rfl⟩ ⟨Nat.zero_le _, Nat.zero_le _⟩ (Nat.le_of_ble_eq_true rfl) k_o r_a1 r_a2 r_x1 h dX7_givesProducts_8 (fun x4 z_x4 _ _ h B => ?_)
      refine jr_if_eq (tgt := 54) C (zR z_x4) h dX7_givesProducts_11 (by decide) (fun hc11 h => ?_) (fun hc11 h => ?_)
      · exact hkx3 _ _ _ _ h  B (lv_sub hl [] rfl)
      · refine lv_aload_n C.1 C.2.1 dX7_givesProducts_14 rfl (lv_at hl 1 rfl) ?_
        refine lv_iload_n C.1 C.2.1 dX7_givesProducts_15 rfl (lv_at hl 2 rfl) ?_
        refine lv_iload_n C.1 C.2.1 dX7_givesProducts_16 rfl (lv_at hl 4 rfl) ?_
        refine lv_iload C.1 C.2.1 dX7_givesProducts_17 (lv_at hl 0 rfl) ?_
        refine cl_X7_hasValue C hl.1 B q_819 ⟨Nat.le_of_ble_eq_true rfl, Nat.le_of_ble_eq_true rfl⟩ ⟨Nat.zero_le _, Nat.zero_le _⟩ (Nat.le_of_ble_eq_true rfl) k_o r_a1 r_a3 r_x1 h dX7_givesProducts_19 (fun x5 z_x5 _ _ h B => ?_)
        refine jr_if_eq (tgt := 54) C (zR z_x5) h dX7_givesProducts_22 (by decide) (fun hc22 h => ?_) (fun hc22 h => ?_)
        · exact hkx3 _ _ _ _ h  B (lv_sub hl [] rfl)
        · refine lv_aload_n C.1 C.2.1 dX7_givesProducts_25 rfl (lv_at hl 1 rfl) ?_
          refine lv_aload_n C.1 C.2.1 dX7_givesProducts_26 rfl (lv_at hl 1 rfl) ?_
          refine lv_iload_n C.1 C.2.1 dX7_givesProducts_27 rfl (lv_at hl 2 rfl) ?_
          refine lv_iload_n C.1 C.2.1 dX7_givesProducts_28 rfl (lv_at hl 3 rfl) ?_
          refine lv_iload C.1 C.2.1 dX7_givesProducts_29 (lv_at hl 0 rfl) ?_
          refine jr_iconst C dX7_givesProducts_31 ?_
          refine cl_X7_numberOf C hl.1 B q_844 ⟨Nat.le_of_ble_eq_true rfl, Nat.le_of_ble_eq_true rfl⟩ ⟨Nat.zero_le _, Nat.zero_le _⟩ (Nat.le_of_ble_eq_true rfl) k_o r_a1 r_a2 r_x1 (jkc rfl) h dX7_givesProducts_32 (fun x6 r_x6 _ _ h B => ?_)
          refine lv_aload_n C.1 C.2.1 dX7_givesProducts_35 rfl (lv_at hl 1 rfl) ?_
          refine lv_iload_n C.1 C.2.1 dX7_givesProducts_36 rfl (lv_at hl 2 rfl) ?_
          refine lv_iload_n C.1 C.2.1 dX7_givesProducts_37 rfl (lv_at hl 4 rfl) ?_
          refine lv_iload C.1 C.2.1 dX7_givesProducts_38 (lv_at hl 0 rfl) ?_
          refine jr_iconst C dX7_givesProducts_40 ?_
          refine cl_X7_numberOf C hl.1 B q_844 ⟨Nat.le_of_ble_eq_true rfl, Nat.le_of_ble_eq_true rfl⟩ ⟨Nat.zero_le _, Nat.zero_le _⟩ (Nat.le_of_ble_eq_true rfl) k_o r_a1 r_a3 r_x1 (jkc rfl) h dX7_givesProducts_41 (fun x7 r_x7 _ _ h B => ?_)
          refine jr_imul C dX7_givesProducts_44 ?_
          refine cl_X7_gives C hl.1 B q_994 ⟨Nat.le_of_ble_eq_true rfl, Nat.le_of_ble_eq_true rfl⟩ ⟨Nat.zero_le _, Nat.zero_le _⟩ (Nat.le_of_ble_eq_true rfl) k_o (jW_R _) h dX7_givesProducts_45 (fun M8 _ _ h B => ?_)
          have o_M8 := B.2.2
          refine jr_iinc (k := 0) (lv' := fun x9 => [(4, .int (jI x9)), (0, .ref (jD G o)), (1, .int (jI a1)), (2, .int (jI a2)), (3, .int (jI a3))]) C h hl rfl (by decide) (fun _ => rfl) dX7_givesProducts_48 (fun x9 h r_x9 ls hl => ?_)
          refine lv_goto (tgt := 3) C.1 C.2.1 dX7_givesProducts_51 (by decide) ?_
          exact ih3 _ _ _ _ _ h r_x9 B (lv_sub hl [0, 1, 2, 3, 4] rfl)
  exact hL3 N _ _ _ _ _ h (jkc rfl) B (lv_sub hl [0, 1, 2, 3, 4] rfl)
theorem cl_X7_givesProducts {p : Program} {l : Launch} {e : Env} {R : Room} {s : State} {m : MethodId} {args : Array Value} {below : List Frame} {meth : Method} {c : Code} {H : Heap} {locs : List Loc} {cells slots : Nat} {Q : State → Prop} {cc : ByteArray} {nL : Nat} {own : String} {G : jG} {H0 : Heap} {pc idx : Nat} {ls : Array Slot} {rest : List Value} {N : Nat} {M : jM} {o a1 a2 a3 : Int} {k : jM → Prop} (C : Cx G p s args m c cc nL own) (hl : ls.size = nL) (B : Hp G M H0 H locs) (q1 : Cond.methodLink own idx yX7_givesProducts ∈ tb) (hR : (rmm 3 67).frames + 1 ≤ R.frames ∧ 8 + (5 + 11) + (rmm 3 67).locals ≤ R.locals) (hcs : cells ≤ R.cells ∧ slots ≤ R.slots) (hW : (rest.map fun v => v.category).sum ≤ 8) (k_o : jK o = 8) (r_a1 : jR a1) (r_a2 : jR a2) (r_a3 : jR a3) (h : w_X7_givesProducts N M o a1 a2 a3 k) (hdg : decode cc pc = .ok (.invokevirtual idx, 3)) (kk : ∀ (M' : jM) (H1 : Heap) (locs1 : List Loc), k M' → Hp G M' H0 H1 locs1 → W p l e R s m args below meth c H1 locs1 cells slots Q (F0 m (pc + 3) ls rest)) : W p l e R s m args below meth c H locs cells slots Q (F0 m pc ls (.int (jI a3) :: .int (jI a2) :: .int (jI a1) :: .ref (jD G o) :: rest)) :=
  jr_callV B (jr_runV (o := o) (As := [.int (jI a1), .int (jI a2), .int (jI a3)]) (n := 3) C hl B (m_X7_givesProducts B.2.2 k_o r_a1 r_a2 r_a3 h) (jE8 k_o) (by omega) rfl q1 q_1008 qs_65 q_1009 q_8 ⟨by decide, by decide, by decide +kernel⟩ rfl ⟨rfl, rfl⟩ hR hcs rfl hW hdg) (fun M' H1 locs1 hk B1 => kk M' H1 locs1 hk B1)
def w_X7_tells (N : Nat) (M : jM) (o : Int) (a1 : Int) (a2 : Int) (k : Int → jM → Prop) : Prop := (jL (jU M o 11 0) (fun M1 => (w_X7_ofColumn M1 o a2 1 (fun x2 => (w_X7_ofColumn M1 o a2 0 (fun x3 => (if x3 = 0 then (w_X7_givesAll N M1 o a1 x2 (fun M4 => (k (M4 o 11) M4))) else (if x3 = 1 then (w_X7_valuesOf M1 o a1 x2 (fun x5 => (w_X7_gives M1 o x5 (fun M6 => (k (M6 o 11) M6))))) else (if x3 = 2 then (w_X7_sumOf N M1 o a1 x2 (fun x7 => (w_X7_gives M1 o x7 (fun M8 => (k (M8 o 11) M8))))) else (if x3 = 3 then (w_X7_givesGreatest N M1 o a1 x2 (fun M9 => (k (M9 o 11) M9))) else (w_X7_ofColumn M1 o a2 2 (fun x10 => (w_X7_givesProducts N M1 o a1 x2 x10 (fun M11 => (k (M11 o 11) M11)))))))))))))))
set_option maxHeartbeats 4000000 in
set_option maxRecDepth 100000 in
theorem m_X7_tells {l : Launch} {G : jG} {N : Nat} {M : jM} {o a1 a2 : Int} {k : Int → jM → Prop} (o_M : jOK M) (k_o : jK o = 8) (r_a1 : jR a1) (r_a2 : jR a2) (h : w_X7_tells N M o a1 a2 k) : Met l yX7_tells (wsG yX7_tells cX7_tells 4 (some .int)) (rmm 4 91) (jPc G M [.ref (jD G o), .int (jI a1), .int (jI a2)]) (qI G k) 0 0 (gA G) := by
  refine jm_start RX7 rfl (by decide) (Nat.le_of_ble_eq_true rfl) o_M ?_
  intro p e s m args below meth c ls C hr hlocks hl B
  have hl : lv_has ls 4 [(0, .ref (jD G o)), (1, .int (jI a1)), (2, .int (jI a2))] := hl
  unfold w_X7_tells at h
  refine lv_aload_n C.1 C.2.1 dX7_tells_0 rfl (lv_at hl 0 rfl) ?_
  refine jr_iconst C dX7_tells_1 ?_
  refine pf_X7_194 C B k_o (jkc rfl) h dX7_tells_2 (fun M1 _ _ h B => ?_)
  have o_M1 := B.2.2
  refine lv_aload_n C.1 C.2.1 dX7_tells_5 rfl (lv_at hl 0 rfl) ?_
  refine lv_iload_n C.1 C.2.1 dX7_tells_6 rfl (lv_at hl 2 rfl) ?_
  refine jr_iconst C dX7_tells_7 ?_
  refine cl_X7_ofColumn C hl.1 B q_965 ⟨Nat.le_of_ble_eq_true rfl, Nat.le_of_ble_eq_true rfl⟩ ⟨Nat.zero_le _, Nat.zero_le _⟩ (Nat.le_of_ble_eq_true rfl) k_o r_a2 (jkc rfl) h dX7_tells_8 (fun x2 r_x2 _ _ h B => ?_)
  refine lv_istore_n (lv' := [(3, .int (jI x2)), (0, .ref (jD G o)), (1, .int (jI a1)), (2, .int (jI a2))]) C.1 C.2.1 dX7_tells_11 rfl hl (by decide) rfl (fun ls hl => ?_)
  refine lv_aload_n C.1 C.2.1 dX7_tells_12 rfl (lv_at hl 1 rfl) ?_
  refine lv_iload_n C.1 C.2.1 dX7_tells_13 rfl (lv_at hl 3 rfl) ?_
  refine jr_iconst C dX7_tells_14 ?_
  refine cl_X7_ofColumn C hl.1 B q_965 ⟨Nat.le_of_ble_eq_true rfl, Nat.le_of_ble_eq_true rfl⟩ ⟨Nat.zero_le _, Nat.zero_le _⟩ (Nat.le_of_ble_eq_true rfl) k_o r_a2 (jkc rfl) h dX7_tells_15 (fun x3 r_x3 _ _ h B => ?_)
  by_cases hs18_0 : x3 = 0
  · rw [if_pos hs18_0] at h
    refine jr_tableIn (v := 0) (off := 30) (tgt := 48) C r_x3 hs18_0 (by decide) (by decide) (by decide) dX7_tells_18 (by decide) ?_
    refine lv_aload_n C.1 C.2.1 dX7_tells_48 rfl (lv_at hl 1 rfl) ?_
    refine lv_iload_n C.1 C.2.1 dX7_tells_49 rfl (lv_at hl 2 rfl) ?_
    refine lv_iload_n C.1 C.2.1 dX7_tells_50 rfl (lv_at hl 0 rfl) ?_
    refine cl_X7_givesAll C hl.1 B q_990 ⟨Nat.le_of_ble_eq_true rfl, Nat.le_of_ble_eq_true rfl⟩ ⟨Nat.zero_le _, Nat.zero_le _⟩ (Nat.le_of_ble_eq_true rfl) k_o r_a1 r_x2 h dX7_tells_51 (fun M4 _ _ h B => ?_)
    have o_M4 := B.2.2
    refine lv_goto (tgt := 104) C.1 C.2.1 dX7_tells_54 (by decide) ?_
    refine lv_aload_n C.1 C.2.1 dX7_tells_104 rfl (lv_at hl 1 rfl) ?_
    refine gf_X7_194 C B k_o dX7_tells_105 ?_
    exact jr_iret C B hr hlocks (o_M4 o 11).1 h dX7_tells_108
  · rw [if_neg hs18_0] at h
    by_cases hs18_1 : x3 = 1
    · rw [if_pos hs18_1] at h
      refine jr_tableIn (v := 1) (off := 39) (tgt := 57) C r_x3 hs18_1 (by decide) (by decide) (by decide) dX7_tells_18 (by decide) ?_
      refine lv_aload_n C.1 C.2.1 dX7_tells_57 rfl (lv_at hl 1 rfl) ?_
      refine lv_aload_n C.1 C.2.1 dX7_tells_58 rfl (lv_at hl 1 rfl) ?_
      refine lv_iload_n C.1 C.2.1 dX7_tells_59 rfl (lv_at hl 2 rfl) ?_
      refine lv_iload_n C.1 C.2.1 dX7_tells_60 rfl (lv_at hl 0 rfl) ?_
      refine cl_X7_valuesOf C hl.1 B q_815 ⟨Nat.le_of_ble_eq_true rfl, Nat.le_of_ble_eq_true rfl⟩ ⟨Nat.zero_le _, Nat.zero_le _⟩ (Nat.le_of_ble_eq_true rfl) k_o r_a1 r_x2 h dX7_tells_61 (fun x5 r_x5 _ _ h B => ?_)
      refine cl_X7_gives C hl.1 B q_994 ⟨Nat.le_of_ble_eq_true rfl, Nat.le_of_ble_eq_true rfl⟩ ⟨Nat.zero_le _, Nat.zero_le _⟩ (Nat.le_of_ble_eq_true rfl) k_o r_x5 h dX7_tells_64 (fun M6 _ _ h B => ?_)
      have o_M6 := B.2.2
      refine lv_goto (tgt := 104) C.1 C.2.1 dX7_tells_67 (by decide) ?_
      refine lv_aload_n C.1 C.2.1 dX7_tells_104 rfl (lv_at hl 1 rfl) ?_
      refine gf_X7_194 C B k_o dX7_tells_105 ?_
      exact jr_iret C B hr hlocks (o_M6 o 11).1 h dX7_tells_108
    · rw [if_neg hs18_1] at h
      by_cases hs18_2 : x3 = 2
      · rw [if_pos hs18_2] at h
        refine jr_tableIn (v := 2) (off := 52) (tgt := 70) C r_x3 hs18_2 (by decide) (by decide) (by decide) dX7_tells_18 (by decide) ?_
        refine lv_aload_n C.1 C.2.1 dX7_tells_70 rfl (lv_at hl 1 rfl) ?_
        refine lv_aload_n C.1 C.2.1 dX7_tells_71 rfl (lv_at hl 1 rfl) ?_
        refine lv_iload_n C.1 C.2.1 dX7_tells_72 rfl (lv_at hl 2 rfl) ?_
        refine lv_iload_n C.1 C.2.1 dX7_tells_73 rfl (lv_at hl 0 rfl) ?_
        refine cl_X7_sumOf C hl.1 B q_998 ⟨Nat.le_of_ble_eq_true rfl, Nat.le_of_ble_eq_true rfl⟩ ⟨Nat.zero_le _, Nat.zero_le _⟩ (Nat.le_of_ble_eq_true rfl) k_o r_a1 r_x2 h dX7_tells_74 (fun x7 r_x7 _ _ h B => ?_)
        refine cl_X7_gives C hl.1 B q_994 ⟨Nat.le_of_ble_eq_true rfl, Nat.le_of_ble_eq_true rfl⟩ ⟨Nat.zero_le _, Nat.zero_le _⟩ (Nat.le_of_ble_eq_true rfl) k_o r_x7 h dX7_tells_77 (fun M8 _ _ h B => ?_)
        have o_M8 := B.2.2
        refine lv_goto (tgt := 104) C.1 C.2.1 dX7_tells_80 (by decide) ?_
        refine lv_aload_n C.1 C.2.1 dX7_tells_104 rfl (lv_at hl 1 rfl) ?_
        refine gf_X7_194 C B k_o dX7_tells_105 ?_
        exact jr_iret C B hr hlocks (o_M8 o 11).1 h dX7_tells_108
      · rw [if_neg hs18_2] at h
        by_cases hs18_3 : x3 = 3
        · rw [if_pos hs18_3] at h
          refine jr_tableIn (v := 3) (off := 65) (tgt := 83) C r_x3 hs18_3 (by decide) (by decide) (by decide) dX7_tells_18 (by decide) ?_
          refine lv_aload_n C.1 C.2.1 dX7_tells_83 rfl (lv_at hl 1 rfl) ?_
          refine lv_iload_n C.1 C.2.1 dX7_tells_84 rfl (lv_at hl 2 rfl) ?_
          refine lv_iload_n C.1 C.2.1 dX7_tells_85 rfl (lv_at hl 0 rfl) ?_
          refine cl_X7_givesGreatest C hl.1 B q_1002 ⟨Nat.le_of_ble_eq_true rfl, Nat.le_of_ble_eq_true rfl⟩ ⟨Nat.zero_le _, Nat.zero_le _⟩ (Nat.le_of_ble_eq_true rfl) k_o r_a1 r_x2 h dX7_tells_86 (fun M9 _ _ h B => ?_)
          have o_M9 := B.2.2
          refine lv_goto (tgt := 104) C.1 C.2.1 dX7_tells_89 (by decide) ?_
          refine lv_aload_n C.1 C.2.1 dX7_tells_104 rfl (lv_at hl 1 rfl) ?_
          refine gf_X7_194 C B k_o dX7_tells_105 ?_
          exact jr_iret C B hr hlocks (o_M9 o 11).1 h dX7_tells_108
        · rw [if_neg hs18_3] at h
          refine jr_tableOut (tgt := 92) C r_x3 (by omega) dX7_tells_18 (by decide) ?_
          refine lv_aload_n C.1 C.2.1 dX7_tells_92 rfl (lv_at hl 1 rfl) ?_
          refine lv_iload_n C.1 C.2.1 dX7_tells_93 rfl (lv_at hl 2 rfl) ?_
          refine lv_iload_n C.1 C.2.1 dX7_tells_94 rfl (lv_at hl 0 rfl) ?_
          refine lv_aload_n C.1 C.2.1 dX7_tells_95 rfl (lv_at hl 1 rfl) ?_
          refine lv_iload_n C.1 C.2.1 dX7_tells_96 rfl (lv_at hl 3 rfl) ?_
          refine jr_iconst C dX7_tells_97 ?_
          refine cl_X7_ofColumn C hl.1 B q_965 ⟨Nat.le_of_ble_eq_true rfl, Nat.le_of_ble_eq_true rfl⟩ ⟨Nat.zero_le _, Nat.zero_le _⟩ (Nat.le_of_ble_eq_true rfl) k_o r_a2 (jkc rfl) h dX7_tells_98 (fun x10 r_x10 _ _ h B => ?_)
          refine cl_X7_givesProducts C hl.1 B q_1006 ⟨Nat.le_of_ble_eq_true rfl, Nat.le_of_ble_eq_true rfl⟩ ⟨Nat.zero_le _, Nat.zero_le _⟩ (Nat.le_of_ble_eq_true rfl) k_o r_a1 r_x2 r_x10 h dX7_tells_101 (fun M11 _ _ h B => ?_)
          have o_M11 := B.2.2
          refine lv_aload_n C.1 C.2.1 dX7_tells_104 rfl (lv_at hl 1 rfl) ?_
          refine gf_X7_194 C B k_o dX7_tells_105 ?_
          exact jr_iret C B hr hlocks (o_M11 o 11).1 h dX7_tells_108
theorem cl_X7_tells {p : Program} {l : Launch} {e : Env} {R : Room} {s : State} {m : MethodId} {args : Array Value} {below : List Frame} {meth : Method} {c : Code} {H : Heap} {locs : List Loc} {cells slots : Nat} {Q : State → Prop} {cc : ByteArray} {nL : Nat} {own : String} {G : jG} {H0 : Heap} {pc idx : Nat} {ls : Array Slot} {rest : List Value} {N : Nat} {M : jM} {o a1 a2 : Int} {k : Int → jM → Prop} (C : Cx G p s args m c cc nL own) (hl : ls.size = nL) (B : Hp G M H0 H locs) (q1 : Cond.methodLink own idx yX7_tells ∈ tb) (hR : (rmm 4 91).frames + 1 ≤ R.frames ∧ 8 + (4 + 11) + (rmm 4 91).locals ≤ R.locals) (hcs : cells ≤ R.cells ∧ slots ≤ R.slots) (hW : (rest.map fun v => v.category).sum ≤ 8) (k_o : jK o = 8) (r_a1 : jR a1) (r_a2 : jR a2) (h : w_X7_tells N M o a1 a2 k) (hdg : decode cc pc = .ok (.invokevirtual idx, 3)) (kk : ∀ (r : Int) (M' : jM), jR r → ∀ (H1 : Heap) (locs1 : List Loc), k r M' → Hp G M' H0 H1 locs1 → W p l e R s m args below meth c H1 locs1 cells slots Q (F0 m (pc + 3) ls (.int (jI r) :: rest))) : W p l e R s m args below meth c H locs cells slots Q (F0 m pc ls (.int (jI a2) :: .int (jI a1) :: .ref (jD G o) :: rest)) :=
  jr_callI B (jr_runV (o := o) (As := [.int (jI a1), .int (jI a2)]) (n := 2) C hl B (m_X7_tells B.2.2 k_o r_a1 r_a2 h) (jE8 k_o) (by omega) rfl q1 q_988 qs_60 q_989 q_8 ⟨by decide, by decide, by decide +kernel⟩ rfl ⟨rfl, rfl⟩ hR hcs rfl hW hdg) (fun r M' H1 locs1 hr hk B1 => kk r M' hr H1 locs1 hk B1)
def w_X7_goAssociate (M : jM) (o : Int) (a1 : Int) (a2 : Int) (k : Int → jM → Prop) : Prop := (w_X7_isField a1 (fun x1 => (if x1 = 0 then (k (-1000001) M) else (jL (fun (x2 : Int) => (jB (jW (1 + a1)) 1115 ∧ jL (jU M (o + 1) (jW (1 + a1)) x2) (fun M4 => (jB 1 1115 ∧ (jB 2 1115 ∧ (jB 3 1115 ∧ (jB 4 1115 ∧ (k (jW ((jW ((jW ((M4 (o + 1) 1) + (M4 (o + 1) 2))) + (M4 (o + 1) 3))) + (M4 (o + 1) 4))) M4)))))))) (fun j18_3 => (if a2 = 0 then (j18_3 0) else (j18_3 1)))))))
set_option maxHeartbeats 4000000 in
set_option maxRecDepth 100000 in
theorem m_X7_goAssociate {l : Launch} {G : jG} {M : jM} {o a1 a2 : Int} {k : Int → jM → Prop} (o_M : jOK M) (k_o : jK o = 8) (r_a1 : jR a1) (z_a2 : a2 = 0 ∨ a2 = 1) (h : w_X7_goAssociate M o a1 a2 k) : Met l yX7_goAssociate (wsG yX7_goAssociate cX7_goAssociate 3 (some .int)) (rmm 2 42) (jPc G M [.ref (jD G o), .int (jI a1), .int (jI a2)]) (qI G k) 0 0 (gA G) := by
  refine jm_start RX7 rfl (by decide) (Nat.le_of_ble_eq_true rfl) o_M ?_
  intro p e s m args below meth c ls C hr hlocks hl B
  have hl : lv_has ls 3 [(0, .ref (jD G o)), (1, .int (jI a1)), (2, .int (jI a2))] := hl
  unfold w_X7_goAssociate at h
  refine lv_iload_n C.1 C.2.1 dX7_goAssociate_0 rfl (lv_at hl 1 rfl) ?_
  refine cl_X7_isField C hl.1 B q_812 ⟨Nat.le_of_ble_eq_true rfl, Nat.le_of_ble_eq_true rfl⟩ ⟨Nat.zero_le _, Nat.zero_le _⟩ (Nat.le_of_ble_eq_true rfl) r_a1 h dX7_goAssociate_1 (fun x1 z_x1 _ _ h B => ?_)
  refine jr_if_ne (tgt := 10) C (zR z_x1) h dX7_goAssociate_4 (by decide) (fun hc4 h => ?_) (fun hc4 h => ?_)
  · refine jr_ldc (n := -1000001) C q_753 (by decide) dX7_goAssociate_7 ?_
    exact jr_iret C B hr hlocks (jkc rfl) h dX7_goAssociate_9
  · refine lv_aload_n C.1 C.2.1 dX7_goAssociate_10 rfl (lv_at hl 0 rfl) ?_
    refine gf_X7_7 C B k_o dX7_goAssociate_11 ?_
    refine jr_iconst C dX7_goAssociate_14 ?_
    refine lv_iload_n C.1 C.2.1 dX7_goAssociate_15 rfl (lv_at hl 1 rfl) ?_
    refine jr_iadd C dX7_goAssociate_16 ?_
    refine lv_iload_n C.1 C.2.1 dX7_goAssociate_17 rfl (lv_at hl 2 rfl) ?_
    obtain ⟨j18_3, hj18_3, h⟩ := jx_join (P := fun j18_3 : Int → Prop => ∀ (x2 : Int) (H : Heap) (locs : List Loc) (ls : Array Slot), j18_3 x2 → (x2 = 0 ∨ x2 = 1) → Hp G M s.heap H locs → lv_has ls 3 [(0, .ref (jD G o))] → W p l e (rmm 2 42) s m args below meth c H locs 0 0 (MQ below (qI G k) args s 0 0 (gA G)) (F0 m 26 ls [.int (jI x2), .int (jI (jW (1 + a1))), .ref (jD G (o + 1))])) h (by
      intro x2 H locs ls h z_x2 B hl
      refine jr_iast C B 1115 (jk1 (ko_X7_0 k_o) rfl) (jk2 (ko_X7_0 k_o) rfl) (jW_R _) (zR z_x2) h dX7_goAssociate_26 (fun M4 _ _ h B => ?_)
      have o_M4 := B.2.2
      refine lv_aload_n C.1 C.2.1 dX7_goAssociate_27 rfl (lv_at hl 0 rfl) ?_
      refine gf_X7_7 C B k_o dX7_goAssociate_28 ?_
      refine jr_iconst C dX7_goAssociate_31 ?_
      obtain ⟨g5, h⟩ := h
      refine jr_iald C B 1115 (jk1 (ko_X7_0 k_o) rfl) (jk2 (ko_X7_0 k_o) rfl) (jkc rfl) g5 dX7_goAssociate_32 ?_
      refine lv_aload_n C.1 C.2.1 dX7_goAssociate_33 rfl (lv_at hl 0 rfl) ?_
      refine gf_X7_7 C B k_o dX7_goAssociate_34 ?_
      refine jr_iconst C dX7_goAssociate_37 ?_
      obtain ⟨g6, h⟩ := h
      refine jr_iald C B 1115 (jk1 (ko_X7_0 k_o) rfl) (jk2 (ko_X7_0 k_o) rfl) (jkc rfl) g6 dX7_goAssociate_38 ?_
      refine jr_iadd C dX7_goAssociate_39 ?_
      refine lv_aload_n C.1 C.2.1 dX7_goAssociate_40 rfl (lv_at hl 0 rfl) ?_
      refine gf_X7_7 C B k_o dX7_goAssociate_41 ?_
      refine jr_iconst C dX7_goAssociate_44 ?_
      obtain ⟨g7, h⟩ := h
      refine jr_iald C B 1115 (jk1 (ko_X7_0 k_o) rfl) (jk2 (ko_X7_0 k_o) rfl) (jkc rfl) g7 dX7_goAssociate_45 ?_
      refine jr_iadd C dX7_goAssociate_46 ?_
      refine lv_aload_n C.1 C.2.1 dX7_goAssociate_47 rfl (lv_at hl 0 rfl) ?_
      refine gf_X7_7 C B k_o dX7_goAssociate_48 ?_
      refine jr_iconst C dX7_goAssociate_51 ?_
      obtain ⟨g8, h⟩ := h
      refine jr_iald C B 1115 (jk1 (ko_X7_0 k_o) rfl) (jk2 (ko_X7_0 k_o) rfl) (jkc rfl) g8 dX7_goAssociate_52 ?_
      refine jr_iadd C dX7_goAssociate_53 ?_
      exact jr_iret C B hr hlocks (jW_R _) h dX7_goAssociate_54)
    refine jr_if_eq (tgt := 25) C (zR z_a2) h dX7_goAssociate_18 (by decide) (fun hc18 h => ?_) (fun hc18 h => ?_)
    · refine jr_iconst C dX7_goAssociate_25 ?_
      exact hj18_3 _ _ _ _ h (Or.inl rfl) B (lv_sub hl [0] rfl)
    · refine jr_iconst C dX7_goAssociate_21 ?_
      refine lv_goto (tgt := 26) C.1 C.2.1 dX7_goAssociate_22 (by decide) ?_
      exact hj18_3 _ _ _ _ h (Or.inr rfl) B (lv_sub hl [0] rfl)
theorem cl_X7_goAssociate {p : Program} {l : Launch} {e : Env} {R : Room} {s : State} {m : MethodId} {args : Array Value} {below : List Frame} {meth : Method} {c : Code} {H : Heap} {locs : List Loc} {cells slots : Nat} {Q : State → Prop} {cc : ByteArray} {nL : Nat} {own : String} {G : jG} {H0 : Heap} {pc idx : Nat} {ls : Array Slot} {rest : List Value} {M : jM} {o a1 a2 : Int} {k : Int → jM → Prop} (C : Cx G p s args m c cc nL own) (hl : ls.size = nL) (B : Hp G M H0 H locs) (q1 : Cond.methodLink own idx yX7_goAssociate ∈ tb) (hR : (rmm 2 42).frames + 1 ≤ R.frames ∧ 8 + (3 + 11) + (rmm 2 42).locals ≤ R.locals) (hcs : cells ≤ R.cells ∧ slots ≤ R.slots) (hW : (rest.map fun v => v.category).sum ≤ 8) (k_o : jK o = 8) (r_a1 : jR a1) (z_a2 : a2 = 0 ∨ a2 = 1) (h : w_X7_goAssociate M o a1 a2 k) (hdg : decode cc pc = .ok (.invokevirtual idx, 3)) (kk : ∀ (r : Int) (M' : jM), jR r → ∀ (H1 : Heap) (locs1 : List Loc), k r M' → Hp G M' H0 H1 locs1 → W p l e R s m args below meth c H1 locs1 cells slots Q (F0 m (pc + 3) ls (.int (jI r) :: rest))) : W p l e R s m args below meth c H locs cells slots Q (F0 m pc ls (.int (jI a2) :: .int (jI a1) :: .ref (jD G o) :: rest)) :=
  jr_callI B (jr_runV (o := o) (As := [.int (jI a1), .int (jI a2)]) (n := 2) C hl B (m_X7_goAssociate B.2.2 k_o r_a1 z_a2 h) (jE8 k_o) (by omega) rfl q1 q_952 qs_55 q_953 q_8 ⟨by decide, by decide, by decide +kernel⟩ rfl ⟨rfl, rfl⟩ hR hcs rfl hW hdg) (fun r M' H1 locs1 hr hk B1 => kk r M' hr H1 locs1 hk B1)
def w_X7_goDefine (M : jM) (o : Int) (a1 : Int) (a2 : Int) (a3 : Int) (a4 : Int) (k : Int → jM → Prop) : Prop := (w_X7_isColumn a1 (fun x1 => (if x1 = 0 then (k (-1000001) M) else (w_X7_isField a3 (fun x2 => (if x2 = 0 then (k (-1000001) M) else (w_X7_isField a4 (fun x3 => (if x3 = 0 then (k (-1000001) M) else (w_X7_in a2 0 4 (fun x4 => (if x4 = 0 then (k (-1000002) M) else (w_X7_ofColumn M o a1 0 (fun x5 => (jB (jW (5 + (jW (3 * a1)))) 1115 ∧ jL (jU M (o + 1) (jW (5 + (jW (3 * a1)))) a2) (fun M6 => (jB (jW ((jW (5 + (jW (3 * a1)))) + 1)) 1115 ∧ jL (jU M6 (o + 1) (jW ((jW (5 + (jW (3 * a1)))) + 1)) a3) (fun M7 => (jB (jW ((jW (5 + (jW (3 * a1)))) + 2)) 1115 ∧ jL (jU M7 (o + 1) (jW ((jW (5 + (jW (3 * a1)))) + 2)) a4) (fun M8 => (k x5 M8)))))))))))))))))))))
set_option maxHeartbeats 4000000 in
set_option maxRecDepth 100000 in
theorem m_X7_goDefine {l : Launch} {G : jG} {M : jM} {o a1 a2 a3 a4 : Int} {k : Int → jM → Prop} (o_M : jOK M) (k_o : jK o = 8) (r_a1 : jR a1) (r_a2 : jR a2) (r_a3 : jR a3) (r_a4 : jR a4) (h : w_X7_goDefine M o a1 a2 a3 a4 k) : Met l yX7_goDefine (wsG yX7_goDefine cX7_goDefine 6 (some .int)) (rmm 2 42) (jPc G M [.ref (jD G o), .int (jI a1), .int (jI a2), .int (jI a3), .int (jI a4)]) (qI G k) 0 0 (gA G) := by
  refine jm_start RX7 rfl (by decide) (Nat.le_of_ble_eq_true rfl) o_M ?_
  intro p e s m args below meth c ls C hr hlocks hl B
  have hl : lv_has ls 6 [(0, .ref (jD G o)), (1, .int (jI a1)), (2, .int (jI a2)), (3, .int (jI a3)), (4, .int (jI a4))] := hl
  unfold w_X7_goDefine at h
  refine lv_iload_n C.1 C.2.1 dX7_goDefine_0 rfl (lv_at hl 1 rfl) ?_
  refine cl_X7_isColumn C hl.1 B q_962 ⟨Nat.le_of_ble_eq_true rfl, Nat.le_of_ble_eq_true rfl⟩ ⟨Nat.zero_le _, Nat.zero_le _⟩ (Nat.le_of_ble_eq_true rfl) r_a1 h dX7_goDefine_1 (fun x1 z_x1 _ _ h B => ?_)
  refine jr_if_eq (tgt := 22) C (zR z_x1) h dX7_goDefine_4 (by decide) (fun hc4 h => ?_) (fun hc4 h => ?_)
  · refine jr_ldc (n := -1000001) C q_753 (by decide) dX7_goDefine_22 ?_
    exact jr_iret C B hr hlocks (jkc rfl) h dX7_goDefine_24
  · refine lv_iload_n C.1 C.2.1 dX7_goDefine_7 rfl (lv_at hl 3 rfl) ?_
    refine cl_X7_isField C hl.1 B q_812 ⟨Nat.le_of_ble_eq_true rfl, Nat.le_of_ble_eq_true rfl⟩ ⟨Nat.zero_le _, Nat.zero_le _⟩ (Nat.le_of_ble_eq_true rfl) r_a3 h dX7_goDefine_8 (fun x2 z_x2 _ _ h B => ?_)
    refine jr_if_eq (tgt := 22) C (zR z_x2) h dX7_goDefine_11 (by decide) (fun hc11 h => ?_) (fun hc11 h => ?_)
    · refine jr_ldc (n := -1000001) C q_753 (by decide) dX7_goDefine_22 ?_
      exact jr_iret C B hr hlocks (jkc rfl) h dX7_goDefine_24
    · refine lv_iload C.1 C.2.1 dX7_goDefine_14 (lv_at hl 4 rfl) ?_
      refine cl_X7_isField C hl.1 B q_812 ⟨Nat.le_of_ble_eq_true rfl, Nat.le_of_ble_eq_true rfl⟩ ⟨Nat.zero_le _, Nat.zero_le _⟩ (Nat.le_of_ble_eq_true rfl) r_a4 h dX7_goDefine_16 (fun x3 z_x3 _ _ h B => ?_)
      refine jr_if_ne (tgt := 25) C (zR z_x3) h dX7_goDefine_19 (by decide) (fun hc19 h => ?_) (fun hc19 h => ?_)
      · refine jr_ldc (n := -1000001) C q_753 (by decide) dX7_goDefine_22 ?_
        exact jr_iret C B hr hlocks (jkc rfl) h dX7_goDefine_24
      · refine lv_iload_n C.1 C.2.1 dX7_goDefine_25 rfl (lv_at hl 2 rfl) ?_
        refine jr_iconst C dX7_goDefine_26 ?_
        refine jr_iconst C dX7_goDefine_27 ?_
        refine cl_X7_in C hl.1 B q_745 ⟨Nat.le_of_ble_eq_true rfl, Nat.le_of_ble_eq_true rfl⟩ ⟨Nat.zero_le _, Nat.zero_le _⟩ (Nat.le_of_ble_eq_true rfl) r_a2 (jkc rfl) (jkc rfl) h dX7_goDefine_28 (fun x4 z_x4 _ _ h B => ?_)
        refine jr_if_ne (tgt := 37) C (zR z_x4) h dX7_goDefine_31 (by decide) (fun hc31 h => ?_) (fun hc31 h => ?_)
        · refine jr_ldc (n := -1000002) C q_748 (by decide) dX7_goDefine_34 ?_
          exact jr_iret C B hr hlocks (jkc rfl) h dX7_goDefine_36
        · refine lv_aload_n C.1 C.2.1 dX7_goDefine_37 rfl (lv_at hl 0 rfl) ?_
          refine lv_iload_n C.1 C.2.1 dX7_goDefine_38 rfl (lv_at hl 1 rfl) ?_
          refine jr_iconst C dX7_goDefine_39 ?_
          refine cl_X7_ofColumn C hl.1 B q_965 ⟨Nat.le_of_ble_eq_true rfl, Nat.le_of_ble_eq_true rfl⟩ ⟨Nat.zero_le _, Nat.zero_le _⟩ (Nat.le_of_ble_eq_true rfl) k_o r_a1 (jkc rfl) h dX7_goDefine_40 (fun x5 r_x5 _ _ h B => ?_)
          refine lv_istore (lv' := [(5, .int (jI x5)), (0, .ref (jD G o)), (1, .int (jI a1)), (2, .int (jI a2)), (3, .int (jI a3)), (4, .int (jI a4))]) C.1 C.2.1 dX7_goDefine_43 hl (by decide) rfl (fun ls hl => ?_)
          refine lv_aload_n C.1 C.2.1 dX7_goDefine_45 rfl (lv_at hl 1 rfl) ?_
          refine gf_X7_7 C B k_o dX7_goDefine_46 ?_
          refine jr_iconst C dX7_goDefine_49 ?_
          refine jr_iconst C dX7_goDefine_50 ?_
          refine lv_iload_n C.1 C.2.1 dX7_goDefine_51 rfl (lv_at hl 2 rfl) ?_
          refine jr_imul C dX7_goDefine_52 ?_
          refine jr_iadd C dX7_goDefine_53 ?_
          refine lv_iload_n C.1 C.2.1 dX7_goDefine_54 rfl (lv_at hl 3 rfl) ?_
          refine jr_iast C B 1115 (jk1 (ko_X7_0 k_o) rfl) (jk2 (ko_X7_0 k_o) rfl) (jW_R _) r_a2 h dX7_goDefine_55 (fun M6 _ _ h B => ?_)
          have o_M6 := B.2.2
          refine lv_aload_n C.1 C.2.1 dX7_goDefine_56 rfl (lv_at hl 1 rfl) ?_
          refine gf_X7_7 C B k_o dX7_goDefine_57 ?_
          refine jr_iconst C dX7_goDefine_60 ?_
          refine jr_iconst C dX7_goDefine_61 ?_
          refine lv_iload_n C.1 C.2.1 dX7_goDefine_62 rfl (lv_at hl 2 rfl) ?_
          refine jr_imul C dX7_goDefine_63 ?_
          refine jr_iadd C dX7_goDefine_64 ?_
          refine jr_iconst C dX7_goDefine_65 ?_
          refine jr_iadd C dX7_goDefine_66 ?_
          refine lv_iload_n C.1 C.2.1 dX7_goDefine_67 rfl (lv_at hl 4 rfl) ?_
          refine jr_iast C B 1115 (jk1 (ko_X7_0 k_o) rfl) (jk2 (ko_X7_0 k_o) rfl) (jW_R _) r_a3 h dX7_goDefine_68 (fun M7 _ _ h B => ?_)
          have o_M7 := B.2.2
          refine lv_aload_n C.1 C.2.1 dX7_goDefine_69 rfl (lv_at hl 1 rfl) ?_
          refine gf_X7_7 C B k_o dX7_goDefine_70 ?_
          refine jr_iconst C dX7_goDefine_73 ?_
          refine jr_iconst C dX7_goDefine_74 ?_
          refine lv_iload_n C.1 C.2.1 dX7_goDefine_75 rfl (lv_at hl 2 rfl) ?_
          refine jr_imul C dX7_goDefine_76 ?_
          refine jr_iadd C dX7_goDefine_77 ?_
          refine jr_iconst C dX7_goDefine_78 ?_
          refine jr_iadd C dX7_goDefine_79 ?_
          refine lv_iload C.1 C.2.1 dX7_goDefine_80 (lv_at hl 5 rfl) ?_
          refine jr_iast C B 1115 (jk1 (ko_X7_0 k_o) rfl) (jk2 (ko_X7_0 k_o) rfl) (jW_R _) r_a4 h dX7_goDefine_82 (fun M8 _ _ h B => ?_)
          have o_M8 := B.2.2
          refine lv_iload C.1 C.2.1 dX7_goDefine_83 (lv_at hl 0 rfl) ?_
          exact jr_iret C B hr hlocks r_x5 h dX7_goDefine_85
theorem cl_X7_goDefine {p : Program} {l : Launch} {e : Env} {R : Room} {s : State} {m : MethodId} {args : Array Value} {below : List Frame} {meth : Method} {c : Code} {H : Heap} {locs : List Loc} {cells slots : Nat} {Q : State → Prop} {cc : ByteArray} {nL : Nat} {own : String} {G : jG} {H0 : Heap} {pc idx : Nat} {ls : Array Slot} {rest : List Value} {M : jM} {o a1 a2 a3 a4 : Int} {k : Int → jM → Prop} (C : Cx G p s args m c cc nL own) (hl : ls.size = nL) (B : Hp G M H0 H locs) (q1 : Cond.methodLink own idx yX7_goDefine ∈ tb) (hR : (rmm 2 42).frames + 1 ≤ R.frames ∧ 8 + (6 + 11) + (rmm 2 42).locals ≤ R.locals) (hcs : cells ≤ R.cells ∧ slots ≤ R.slots) (hW : (rest.map fun v => v.category).sum ≤ 8) (k_o : jK o = 8) (r_a1 : jR a1) (r_a2 : jR a2) (r_a3 : jR a3) (r_a4 : jR a4) (h : w_X7_goDefine M o a1 a2 a3 a4 k) (hdg : decode cc pc = .ok (.invokevirtual idx, 3)) (kk : ∀ (r : Int) (M' : jM), jR r → ∀ (H1 : Heap) (locs1 : List Loc), k r M' → Hp G M' H0 H1 locs1 → W p l e R s m args below meth c H1 locs1 cells slots Q (F0 m (pc + 3) ls (.int (jI r) :: rest))) : W p l e R s m args below meth c H locs cells slots Q (F0 m pc ls (.int (jI a4) :: .int (jI a3) :: .int (jI a2) :: .int (jI a1) :: .ref (jD G o) :: rest)) :=
  jr_callI B (jr_runV (o := o) (As := [.int (jI a1), .int (jI a2), .int (jI a3), .int (jI a4)]) (n := 4) C hl B (m_X7_goDefine B.2.2 k_o r_a1 r_a2 r_a3 r_a4 h) (jE8 k_o) (by omega) rfl q1 q_960 qs_56 q_961 q_8 ⟨by decide, by decide, by decide +kernel⟩ rfl ⟨rfl, rfl⟩ hR hcs rfl hW hdg) (fun r M' H1 locs1 hr hk B1 => kk r M' hr H1 locs1 hk B1)
