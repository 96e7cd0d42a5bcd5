def lp_X6_locate_53 (a2 : Int) (a3 : Int) (x1 : Int) (x4 : Int) (M : jM) (k : Int → Prop) (kx53 : Prop) : Nat → Int → Prop
  | 0, _ => False
  | n + 1, x6 => (w_X1_subCount M x1 a2 x4 (fun x8 => (if x6 < x8 then (w_X1_numberOf M x1 a2 x4 x6 (fun x9 => (if x9 = a3 then (k (jW ((jW (10 * x4)) + x6))) else (jL (jW (x6 + 1)) (fun x10 => (lp_X6_locate_53 a2 a3 x1 x4 M k kx53 n x10)))))) else (kx53))))
def lp_X6_locate_39 (N : Nat) (a2 : Int) (a3 : Int) (x1 : Int) (M : jM) (k : Int → Prop) (kx39 : Prop) : Nat → Int → Prop
  | 0, _ => False
  | n + 1, x4 => (w_X1_valueCount M x1 a2 (fun x5 => (if x4 < x5 then (lp_X6_locate_53 a2 a3 x1 x4 M k ((jL (jW (x4 + 1)) (fun x7 => (lp_X6_locate_39 N a2 a3 x1 M k kx39 n x7)))) N 0) else (kx39))))
def w_X6_locate (N : Nat) (M : jM) (o : Int) (a1 : Int) (a2 : Int) (a3 : Int) (k : Int → Prop) : Prop := (w_X4_find N M (o + 1) a1 (fun x1 => (if x1 < 0 then (k (-1000001)) else (w_X6_isBelow a2 4 (fun x2 => (if x2 = 0 then (k (-1000001)) else (w_X6_isNumber a3 (fun x3 => (if x3 = 0 then (k (-1000002)) else (lp_X6_locate_39 N a2 a3 x1 M k ((k (-1000007))) N 0))))))))))
set_option maxHeartbeats 4000000 in
set_option maxRecDepth 100000 in
theorem m_X6_locate {l : Launch} {G : jG} {N : Nat} {M : jM} {o a1 a2 a3 : Int} {k : Int → Prop} (o_M : jOK M) (k_o : jK o = 7) (r_a1 : jR a1) (r_a2 : jR a2) (r_a3 : jR a3) (h : w_X6_locate N M o a1 a2 a3 k) : Met l yX6_locate (wsG yX6_locate cX6_locate 7 (some .int)) (rmm 1 23) (jPc G M [.ref (jD G o), .int (jI a1), .int (jI a2), .int (jI a3)]) (qI G (fun r M' => M' = M ∧ k r)) 0 0 (gA G) := by
  refine jm_start RX6 rfl (by decide) (Nat.le_of_ble_eq_true rfl) o_M ?_
  intro p e s m args below meth c ls C hr hlocks hl B
  have hl : lv_has ls 7 [(0, .ref (jD G o)), (1, .int (jI a1)), (2, .int (jI a2)), (3, .int (jI a3))] := hl
  unfold w_X6_locate at h
  refine lv_aload_n C.1 C.2.1 dX6_locate_0 rfl (lv_at hl 0 rfl) ?_
  refine gf_X6_12 C B k_o dX6_locate_1 ?_
  refine lv_iload_n C.1 C.2.1 dX6_locate_4 rfl (lv_at hl 1 rfl) ?_
  refine cl_X4_find C hl.1 B q_271 ⟨Nat.le_of_ble_eq_true rfl, Nat.le_of_ble_eq_true rfl⟩ ⟨Nat.zero_le _, Nat.zero_le _⟩ (Nat.le_of_ble_eq_true rfl) (ko_X6_0 k_o) r_a1 h dX6_locate_5 (fun x1 n_x1 _ _ h B => ?_)
  refine jr_astoreN (lv' := [(4, jN G x1), (0, .ref (jD G o)), (1, .int (jI a1)), (2, .int (jI a2)), (3, .int (jI a3))]) C dX6_locate_8 hl (by decide) rfl (fun ls hl => ?_)
  refine jr_aloadN C dX6_locate_10 (lv_at hl 0 rfl) ?_
  refine jr_ifnull (tgt := 23) C h dX6_locate_12 (by decide) (fun hc12 h => ?_) (fun hc12 h => ?_)
  · refine jr_ldc (n := -1000001) C q_236 (by decide) dX6_locate_23 ?_
    exact jr_iret C B hr hlocks (jkc rfl) ⟨rfl, h⟩ dX6_locate_25
  · have k_x1 : jK x1 = 2 := n_x1.resolve_left hc12
    rw [jN_ref hc12] at hl
    refine lv_iload_n C.1 C.2.1 dX6_locate_15 rfl (lv_at hl 3 rfl) ?_
    refine jr_iconst C dX6_locate_16 ?_
    refine cl_X6_isBelow C hl.1 B q_233 ⟨Nat.le_of_ble_eq_true rfl, Nat.le_of_ble_eq_true rfl⟩ ⟨Nat.zero_le _, Nat.zero_le _⟩ (Nat.le_of_ble_eq_true rfl) r_a2 (jkc rfl) h dX6_locate_17 (fun x2 z_x2 _ _ h B => ?_)
    refine jr_if_ne (tgt := 26) C (zR z_x2) h dX6_locate_20 (by decide) (fun hc20 h => ?_) (fun hc20 h => ?_)
    · refine jr_ldc (n := -1000001) C q_236 (by decide) dX6_locate_23 ?_
      exact jr_iret C B hr hlocks (jkc rfl) ⟨rfl, h⟩ dX6_locate_25
    · refine lv_iload_n C.1 C.2.1 dX6_locate_26 rfl (lv_at hl 4 rfl) ?_
      refine cl_X6_isNumber C hl.1 B q_320 ⟨Nat.le_of_ble_eq_true rfl, Nat.le_of_ble_eq_true rfl⟩ ⟨Nat.zero_le _, Nat.zero_le _⟩ (Nat.le_of_ble_eq_true rfl) r_a3 h dX6_locate_27 (fun x3 z_x3 _ _ h B => ?_)
      refine jr_if_ne (tgt := 36) C (zR z_x3) h dX6_locate_30 (by decide) (fun hc30 h => ?_) (fun hc30 h => ?_)
      · refine jr_ldc (n := -1000002) C q_237 (by decide) dX6_locate_33 ?_
        exact jr_iret C B hr hlocks (jkc rfl) ⟨rfl, h⟩ dX6_locate_35
      · refine jr_iconst C dX6_locate_36 ?_
        refine lv_istore (lv' := [(5, .int (jI 0)), (4, .ref (jD G x1)), (0, .ref (jD G o)), (1, .int (jI a1)), (2, .int (jI a2)), (3, .int (jI a3))]) C.1 C.2.1 dX6_locate_37 hl (by decide) rfl (fun ls hl => ?_)
        obtain ⟨kx39, hkx39, h⟩ : ∃ kx39 : Prop, (∀ (H : Heap) (locs : List Loc) (ls : Array Slot), kx39 → Hp G M s.heap H locs → lv_has ls 7 [] → W p l e (rmm 1 23) s m args below meth c H locs 0 0 (MQ below (qI G (fun r M' => M' = M ∧ k r)) args s 0 0 (gA G)) (F0 m 101 ls [])) ∧ lp_X6_locate_39 N a2 a3 x1 M k kx39 N 0 := by
          refine ⟨_, ?_, h⟩
          intro H locs ls h  B hl
          refine jr_ldc (n := -1000007) C q_199 (by decide) dX6_locate_101 ?_
          exact jr_iret C B hr hlocks (jkc rfl) ⟨rfl, h⟩ dX6_locate_103
        have hL39 : ∀ (n : Nat) (x4 : Int) (H : Heap) (locs : List Loc) (ls : Array Slot), lp_X6_locate_39 N a2 a3 x1 M k kx39 n x4 → jR x4 → Hp G M s.heap H locs → lv_has ls 7 [(5, .int (jI x4)), (4, .ref (jD G x1)), (2, .int (jI a2)), (3, .int (jI a3))] → W p l e (rmm 1 23) s m args below meth c H locs 0 0 (MQ below (qI G (fun r M' => M' = M ∧ k r)) args s 0 0 (gA G)) (F0 m 39 ls []) := by
          intro n
          induction n with
          | zero => intro x4 H locs ls h; exact (show False from h).elim
          | succ n ih39 =>
            intro x4 H locs ls h r_x4 B hl
            rw [lp_X6_locate_39] at h
            refine lv_iload C.1 C.2.1 dX6_locate_39 (lv_at hl 0 rfl) ?_
            refine lv_aload C.1 C.2.1 dX6_locate_41 (lv_at hl 1 rfl) ?_
            refine lv_iload_n C.1 C.2.1 dX6_locate_43 rfl (lv_at hl 2 rfl) ?_
            refine cl_X1_valueCount C hl.1 B q_279 ⟨Nat.le_of_ble_eq_true rfl, Nat.le_of_ble_eq_true rfl⟩ ⟨Nat.zero_le _, Nat.zero_le _⟩ (Nat.le_of_ble_eq_true rfl) k_x1 r_a2 h dX6_locate_44 (fun x5 r_x5 _ _ h B => ?_)
            refine jr_icmp_ge (tgt := 101) C r_x4 r_x5 h dX6_locate_47 (by decide) (fun hc47 h => ?_) (fun hc47 h => ?_)
            · refine jr_iconst C dX6_locate_50 ?_
              refine lv_istore (lv' := [(6, .int (jI 0)), (5, .int (jI x4)), (4, .ref (jD G x1)), (2, .int (jI a2)), (3, .int (jI a3))]) C.1 C.2.1 dX6_locate_51 hl (by decide) rfl (fun ls hl => ?_)
              obtain ⟨kx53, hkx53, h⟩ : ∃ kx53 : Prop, (∀ (H : Heap) (locs : List Loc) (ls : Array Slot), kx53 → Hp G M s.heap H locs → lv_has ls 7 [(5, .int (jI x4)), (4, .ref (jD G x1)), (2, .int (jI a2)), (3, .int (jI a3))] → W p l e (rmm 1 23) s m args below meth c H locs 0 0 (MQ below (qI G (fun r M' => M' = M ∧ k r)) args s 0 0 (gA G)) (F0 m 95 ls [])) ∧ lp_X6_locate_53 a2 a3 x1 x4 M k kx53 N 0 := by
                refine ⟨_, ?_, h⟩
                intro H locs ls h  B hl
                refine jr_iinc (k := 0) (lv' := fun x7 => [(5, .int (jI x7)), (4, .ref (jD G x1)), (2, .int (jI a2)), (3, .int (jI a3))]) C h hl rfl (by decide) (fun _ => rfl) dX6_locate_95 (fun x7 h r_x7 ls hl => ?_)
                refine lv_goto (tgt := 39) C.1 C.2.1 dX6_locate_98 (by decide) ?_
                exact ih39 _ _ _ _ h r_x7 B (lv_sub hl [0, 1, 2, 3] rfl)
              have hL53 : ∀ (n : Nat) (x6 : Int) (H : Heap) (locs : List Loc) (ls : Array Slot), lp_X6_locate_53 a2 a3 x1 x4 M k kx53 n x6 → jR x6 → Hp G M s.heap H locs → lv_has ls 7 [(6, .int (jI x6)), (5, .int (jI x4)), (4, .ref (jD G x1)), (2, .int (jI a2)), (3, .int (jI a3))] → W p l e (rmm 1 23) s m args below meth c H locs 0 0 (MQ below (qI G (fun r M' => M' = M ∧ k r)) args s 0 0 (gA G)) (F0 m 53 ls []) := by
                intro n
                induction n with
                | zero => intro x6 H locs ls h; exact (show False from h).elim
                | succ n ih53 =>
                  intro x6 H locs ls h r_x6 B hl
                  rw [lp_X6_locate_53] at h
                  refine lv_iload C.1 C.2.1 dX6_locate_53 (lv_at hl 0 rfl) ?_
                  refine lv_aload C.1 C.2.1 dX6_locate_55 (lv_at hl 2 rfl) ?_
                  refine lv_iload_n C.1 C.2.1 dX6_locate_57 rfl (lv_at hl 3 rfl) ?_
                  refine lv_iload C.1 C.2.1 dX6_locate_58 (lv_at hl 1 rfl) ?_
                  refine cl_X1_subCount C hl.1 B q_292 ⟨Nat.le_of_ble_eq_true rfl, Nat.le_of_ble_eq_true rfl⟩ ⟨Nat.zero_le _, Nat.zero_le _⟩ (Nat.le_of_ble_eq_true rfl) k_x1 r_a2 r_x4 h dX6_locate_60 (fun x8 r_x8 _ _ h B => ?_)
                  refine jr_icmp_ge (tgt := 95) C r_x6 r_x8 h dX6_locate_63 (by decide) (fun hc63 h => ?_) (fun hc63 h => ?_)
                  · refine lv_aload C.1 C.2.1 dX6_locate_66 (lv_at hl 2 rfl) ?_
                    refine lv_iload_n C.1 C.2.1 dX6_locate_68 rfl (lv_at hl 3 rfl) ?_
                    refine lv_iload C.1 C.2.1 dX6_locate_69 (lv_at hl 1 rfl) ?_
                    refine lv_iload C.1 C.2.1 dX6_locate_71 (lv_at hl 0 rfl) ?_
                    refine cl_X1_numberOf C hl.1 B q_306 ⟨Nat.le_of_ble_eq_true rfl, Nat.le_of_ble_eq_true rfl⟩ ⟨Nat.zero_le _, Nat.zero_le _⟩ (Nat.le_of_ble_eq_true rfl) k_x1 r_a2 r_x4 r_x6 h dX6_locate_73 (fun x9 r_x9 _ _ h B => ?_)
                    refine lv_iload_n C.1 C.2.1 dX6_locate_76 rfl (lv_at hl 4 rfl) ?_
                    refine jr_icmp_ne (tgt := 89) C r_x9 r_a3 h dX6_locate_77 (by decide) (fun hc77 h => ?_) (fun hc77 h => ?_)
                    · refine jr_bipush C dX6_locate_80 (by decide) ?_
                      refine lv_iload C.1 C.2.1 dX6_locate_82 (lv_at hl 1 rfl) ?_
                      refine jr_imul C dX6_locate_84 ?_
                      refine lv_iload C.1 C.2.1 dX6_locate_85 (lv_at hl 0 rfl) ?_
                      refine jr_iadd C dX6_locate_87 ?_
                      exact jr_iret C B hr hlocks (jW_R _) ⟨rfl, h⟩ dX6_locate_88
                    · refine jr_iinc (k := 0) (lv' := fun x10 => [(6, .int (jI x10)), (5, .int (jI x4)), (4, .ref (jD G x1)), (2, .int (jI a2)), (3, .int (jI a3))]) C h hl rfl (by decide) (fun _ => rfl) dX6_locate_89 (fun x10 h r_x10 ls hl => ?_)
                      refine lv_goto (tgt := 53) C.1 C.2.1 dX6_locate_92 (by decide) ?_
                      exact ih53 _ _ _ _ h r_x10 B (lv_sub hl [0, 1, 2, 3, 4] rfl)
                  · exact hkx53 _ _ _ h  B (lv_sub hl [1, 2, 3, 4] rfl)
              exact hL53 N _ _ _ _ h (jkc rfl) B (lv_sub hl [0, 1, 2, 3, 4] rfl)
            · exact hkx39 _ _ _ h  B (lv_sub hl [] rfl)
        exact hL39 N _ _ _ _ h (jkc rfl) B (lv_sub hl [0, 1, 4, 5] rfl)
theorem cl_X6_locate {p : Program} {l : Launch} {e : Env} {R : Room} {s : State} {m : MethodId} {args : Array Value} {below : List Frame} {meth : Method} {c : Code} {H : Heap} {locs : List Loc} {cells slots : Nat} {Q : State → Prop} {cc : ByteArray} {nL : Nat} {own : String} {G : jG} {H0 : Heap} {pc idx : Nat} {ls : Array Slot} {rest : List Value} {N : Nat} {M : jM} {o a1 a2 a3 : Int} {k : Int → Prop} (C : Cx G p s args m c cc nL own) (hl : ls.size = nL) (B : Hp G M H0 H locs) (q1 : Cond.methodLink own idx yX6_locate ∈ tb) (hR : (rmm 1 23).frames + 1 ≤ R.frames ∧ 8 + (7 + 11) + (rmm 1 23).locals ≤ R.locals) (hcs : cells ≤ R.cells ∧ slots ≤ R.slots) (hW : (rest.map fun v => v.category).sum ≤ 8) (k_o : jK o = 7) (r_a1 : jR a1) (r_a2 : jR a2) (r_a3 : jR a3) (h : w_X6_locate N M o a1 a2 a3 k) (hdg : decode cc pc = .ok (.invokevirtual idx, 3)) (kk : ∀ (r : Int), jR r → ∀ (H1 : Heap) (locs1 : List Loc), k r → Hp G M H0 H1 locs1 → W p l e R s m args below meth c H1 locs1 cells slots Q (F0 m (pc + 3) ls (.int (jI r) :: rest))) : W p l e R s m args below meth c H locs cells slots Q (F0 m pc ls (.int (jI a3) :: .int (jI a2) :: .int (jI a1) :: .ref (jD G o) :: rest)) :=
  jr_callI B (jr_runV (o := o) (As := [.int (jI a1), .int (jI a2), .int (jI a3)]) (n := 3) C hl B (m_X6_locate B.2.2 k_o r_a1 r_a2 r_a3 h) (jE7 k_o) (by omega) rfl q1 q_317 q_318 q_319 q_1 ⟨by decide, by decide, by decide +kernel⟩ rfl ⟨rfl, rfl⟩ hR hcs rfl hW hdg) (fun r M' H1 locs1 hr hk B1 => by obtain ⟨rfl, hk⟩ := hk; exact kk r hr H1 locs1 hk B1)
def w_X6_column (M : jM) (o : Int) (a1 : Int) (a2 : Int) (k : Int → Prop) : Prop := (w_X6_isBelow a1 6 (fun x1 => (if x1 = 0 then (k (-1000001)) else (if a2 = 0 then (jB a1 6 ∧ (k (M ((o + 1) + 43) a1))) else (if a2 = 1 then (jB a1 6 ∧ (k (M ((o + 1) + 44) a1))) else (if a2 = 2 then (jB a1 6 ∧ (k (M ((o + 1) + 45) a1))) else (k (-1000002))))))))
set_option maxHeartbeats 4000000 in
set_option maxRecDepth 100000 in
theorem m_X6_column {l : Launch} {G : jG} {M : jM} {o a1 a2 : Int} {k : Int → Prop} (o_M : jOK M) (k_o : jK o = 7) (r_a1 : jR a1) (r_a2 : jR a2) (h : w_X6_column M o a1 a2 k) : Met l yX6_column (wsG yX6_column cX6_column 3 (some .int)) (rmm 1 21) (jPc G M [.ref (jD G o), .int (jI a1), .int (jI a2)]) (qI G (fun r M' => M' = M ∧ k r)) 0 0 (gA G) := by
  refine jm_start RX6 rfl (by decide) (Nat.le_of_ble_eq_true rfl) o_M ?_
  intro p e s m args below meth c ls C hr hlocks hl B
  have hl : lv_has ls 3 [(0, .ref (jD G o)), (1, .int (jI a1)), (2, .int (jI a2))] := hl
  unfold w_X6_column at h
  refine lv_iload_n C.1 C.2.1 dX6_column_0 rfl (lv_at hl 1 rfl) ?_
  refine jr_bipush C dX6_column_1 (by decide) ?_
  refine cl_X6_isBelow C hl.1 B q_233 ⟨Nat.le_of_ble_eq_true rfl, Nat.le_of_ble_eq_true rfl⟩ ⟨Nat.zero_le _, Nat.zero_le _⟩ (Nat.le_of_ble_eq_true rfl) r_a1 (jkc rfl) h dX6_column_3 (fun x1 z_x1 _ _ h B => ?_)
  refine jr_if_ne (tgt := 12) C (zR z_x1) h dX6_column_6 (by decide) (fun hc6 h => ?_) (fun hc6 h => ?_)
  · refine jr_ldc (n := -1000001) C q_236 (by decide) dX6_column_9 ?_
    exact jr_iret C B hr hlocks (jkc rfl) ⟨rfl, h⟩ dX6_column_11
  · refine lv_iload_n C.1 C.2.1 dX6_column_12 rfl (lv_at hl 2 rfl) ?_
    by_cases hs13_0 : a2 = 0
    · rw [if_pos hs13_0] at h
      refine jr_tableIn (v := 0) (off := 27) (tgt := 40) C r_a2 hs13_0 (by decide) (by decide) (by decide) dX6_column_13 (by decide) ?_
      refine lv_aload_n C.1 C.2.1 dX6_column_40 rfl (lv_at hl 0 rfl) ?_
      refine gf_X6_12 C B k_o dX6_column_41 ?_
      refine gf_X6_177 C B (ko_X6_0 k_o) dX6_column_44 ?_
      refine lv_iload_n C.1 C.2.1 dX6_column_47 rfl (lv_at hl 1 rfl) ?_
      obtain ⟨g2, h⟩ := h
      refine jr_iald C B 6 (jk1 (ko_X4_3 (ko_X6_0 k_o)) rfl) (jk2 (ko_X4_3 (ko_X6_0 k_o)) rfl) r_a1 g2 dX6_column_48 ?_
      exact jr_iret C B hr hlocks (o_M ((o + 1) + 43) a1).1 ⟨rfl, h⟩ dX6_column_49
    · rw [if_neg hs13_0] at h
      by_cases hs13_1 : a2 = 1
      · rw [if_pos hs13_1] at h
        refine jr_tableIn (v := 1) (off := 37) (tgt := 50) C r_a2 hs13_1 (by decide) (by decide) (by decide) dX6_column_13 (by decide) ?_
        refine lv_aload_n C.1 C.2.1 dX6_column_50 rfl (lv_at hl 0 rfl) ?_
        refine gf_X6_12 C B k_o dX6_column_51 ?_
        refine gf_X6_248 C B (ko_X6_0 k_o) dX6_column_54 ?_
        refine lv_iload_n C.1 C.2.1 dX6_column_57 rfl (lv_at hl 1 rfl) ?_
        obtain ⟨g3, h⟩ := h
        refine jr_iald C B 6 (jk1 (ko_X4_4 (ko_X6_0 k_o)) rfl) (jk2 (ko_X4_4 (ko_X6_0 k_o)) rfl) r_a1 g3 dX6_column_58 ?_
        exact jr_iret C B hr hlocks (o_M ((o + 1) + 44) a1).1 ⟨rfl, h⟩ dX6_column_59
      · rw [if_neg hs13_1] at h
        by_cases hs13_2 : a2 = 2
        · rw [if_pos hs13_2] at h
          refine jr_tableIn (v := 2) (off := 47) (tgt := 60) C r_a2 hs13_2 (by decide) (by decide) (by decide) dX6_column_13 (by decide) ?_
          refine lv_aload_n C.1 C.2.1 dX6_column_60 rfl (lv_at hl 0 rfl) ?_
          refine gf_X6_12 C B k_o dX6_column_61 ?_
          refine gf_X6_251 C B (ko_X6_0 k_o) dX6_column_64 ?_
          refine lv_iload_n C.1 C.2.1 dX6_column_67 rfl (lv_at hl 1 rfl) ?_
          obtain ⟨g4, h⟩ := h
          refine jr_iald C B 6 (jk1 (ko_X4_5 (ko_X6_0 k_o)) rfl) (jk2 (ko_X4_5 (ko_X6_0 k_o)) rfl) r_a1 g4 dX6_column_68 ?_
          exact jr_iret C B hr hlocks (o_M ((o + 1) + 45) a1).1 ⟨rfl, h⟩ dX6_column_69
        · rw [if_neg hs13_2] at h
          refine jr_tableOut (tgt := 70) C r_a2 (by omega) dX6_column_13 (by decide) ?_
          refine jr_ldc (n := -1000002) C q_237 (by decide) dX6_column_70 ?_
          exact jr_iret C B hr hlocks (jkc rfl) ⟨rfl, h⟩ dX6_column_72
theorem cl_X6_column {p : Program} {l : Launch} {e : Env} {R : Room} {s : State} {m : MethodId} {args : Array Value} {below : List Frame} {meth : Method} {c : Code} {H : Heap} {locs : List Loc} {cells slots : Nat} {Q : State → Prop} {cc : ByteArray} {nL : Nat} {own : String} {G : jG} {H0 : Heap} {pc idx : Nat} {ls : Array Slot} {rest : List Value} {M : jM} {o a1 a2 : Int} {k : Int → Prop} (C : Cx G p s args m c cc nL own) (hl : ls.size = nL) (B : Hp G M H0 H locs) (q1 : Cond.methodLink own idx yX6_column ∈ tb) (hR : (rmm 1 21).frames + 1 ≤ R.frames ∧ 8 + (3 + 11) + (rmm 1 21).locals ≤ R.locals) (hcs : cells ≤ R.cells ∧ slots ≤ R.slots) (hW : (rest.map fun v => v.category).sum ≤ 8) (k_o : jK o = 7) (r_a1 : jR a1) (r_a2 : jR a2) (h : w_X6_column M o a1 a2 k) (hdg : decode cc pc = .ok (.invokevirtual idx, 3)) (kk : ∀ (r : Int), jR r → ∀ (H1 : Heap) (locs1 : List Loc), k r → Hp G M H0 H1 locs1 → W p l e R s m args below meth c H1 locs1 cells slots Q (F0 m (pc + 3) ls (.int (jI r) :: rest))) : W p l e R s m args below meth c H locs cells slots Q (F0 m pc ls (.int (jI a2) :: .int (jI a1) :: .ref (jD G o) :: rest)) :=
  jr_callI B (jr_runV (o := o) (As := [.int (jI a1), .int (jI a2)]) (n := 2) C hl B (m_X6_column B.2.2 k_o r_a1 r_a2 h) (jE7 k_o) (by omega) rfl q1 q_230 q_231 q_232 q_1 ⟨by decide, by decide, by decide +kernel⟩ rfl ⟨rfl, rfl⟩ hR hcs rfl hW hdg) (fun r M' H1 locs1 hr hk B1 => by obtain ⟨rfl, hk⟩ := hk; exact kk r hr H1 locs1 hk B1)
def w_X6_associated (M : jM) (o : Int) (a1 : Int) (k : Int → Prop) : Prop := (w_X6_isBelow a1 4 (fun x1 => (if x1 = 0 then (k (-1000001)) else (jB a1 4 ∧ (if (M ((o + 1) + 42) a1) = 0 then (k 0) else (k 1))))))
set_option maxHeartbeats 4000000 in
set_option maxRecDepth 100000 in
theorem m_X6_associated {l : Launch} {G : jG} {M : jM} {o a1 : Int} {k : Int → Prop} (o_M : jOK M) (k_o : jK o = 7) (r_a1 : jR a1) (h : w_X6_associated M o a1 k) : Met l yX6_associated (wsG yX6_associated cX6_associated 2 (some .int)) (rmm 1 21) (jPc G M [.ref (jD G o), .int (jI a1)]) (qI G (fun r M' => M' = M ∧ k r)) 0 0 (gA G) := by
  refine jm_start RX6 rfl (by decide) (Nat.le_of_ble_eq_true rfl) o_M ?_
  intro p e s m args below meth c ls C hr hlocks hl B
  have hl : lv_has ls 2 [(0, .ref (jD G o)), (1, .int (jI a1))] := hl
  unfold w_X6_associated at h
  refine lv_iload_n C.1 C.2.1 dX6_associated_0 rfl (lv_at hl 1 rfl) ?_
  refine jr_iconst C dX6_associated_1 ?_
  refine cl_X6_isBelow C hl.1 B q_233 ⟨Nat.le_of_ble_eq_true rfl, Nat.le_of_ble_eq_true rfl⟩ ⟨Nat.zero_le _, Nat.zero_le _⟩ (Nat.le_of_ble_eq_true rfl) r_a1 (jkc rfl) h dX6_associated_2 (fun x1 z_x1 _ _ h B => ?_)
  refine jr_if_ne (tgt := 11) C (zR z_x1) h dX6_associated_5 (by decide) (fun hc5 h => ?_) (fun hc5 h => ?_)
  · refine jr_ldc (n := -1000001) C q_236 (by decide) dX6_associated_8 ?_
    exact jr_iret C B hr hlocks (jkc rfl) ⟨rfl, h⟩ dX6_associated_10
  · refine lv_aload_n C.1 C.2.1 dX6_associated_11 rfl (lv_at hl 0 rfl) ?_
    refine gf_X6_12 C B k_o dX6_associated_12 ?_
    refine gf_X6_150 C B (ko_X6_0 k_o) dX6_associated_15 ?_
    refine lv_iload_n C.1 C.2.1 dX6_associated_18 rfl (lv_at hl 1 rfl) ?_
    obtain ⟨g2, h⟩ := h
    refine jr_zald C B 4 (jk1 (ko_X4_2 (ko_X6_0 k_o)) rfl) (jk2 (ko_X4_2 (ko_X6_0 k_o)) rfl) r_a1 g2 dX6_associated_19 ?_
    refine jr_if_eq (tgt := 27) C (zR (jz_a o_M (jk1 (ko_X4_2 (ko_X6_0 k_o)) rfl) a1)) h dX6_associated_20 (by decide) (fun hc20 h => ?_) (fun hc20 h => ?_)
    · refine jr_iconst C dX6_associated_27 ?_
      exact jr_iret C B hr hlocks (jkc rfl) ⟨rfl, h⟩ dX6_associated_28
    · refine jr_iconst C dX6_associated_23 ?_
      refine lv_goto (tgt := 28) C.1 C.2.1 dX6_associated_24 (by decide) ?_
      exact jr_iret C B hr hlocks (jkc rfl) ⟨rfl, h⟩ dX6_associated_28
theorem cl_X6_associated {p : Program} {l : Launch} {e : Env} {R : Room} {s : State} {m : MethodId} {args : Array Value} {below : List Frame} {meth : Method} {c : Code} {H : Heap} {locs : List Loc} {cells slots : Nat} {Q : State → Prop} {cc : ByteArray} {nL : Nat} {own : String} {G : jG} {H0 : Heap} {pc idx : Nat} {ls : Array Slot} {rest : List Value} {M : jM} {o a1 : Int} {k : Int → Prop} (C : Cx G p s args m c cc nL own) (hl : ls.size = nL) (B : Hp G M H0 H locs) (q1 : Cond.methodLink own idx yX6_associated ∈ tb) (hR : (rmm 1 21).frames + 1 ≤ R.frames ∧ 8 + (2 + 11) + (rmm 1 21).locals ≤ R.locals) (hcs : cells ≤ R.cells ∧ slots ≤ R.slots) (hW : (rest.map fun v => v.category).sum ≤ 8) (k_o : jK o = 7) (r_a1 : jR a1) (h : w_X6_associated M o a1 k) (hdg : decode cc pc = .ok (.invokevirtual idx, 3)) (kk : ∀ (r : Int), jR r → ∀ (H1 : Heap) (locs1 : List Loc), k r → Hp G M H0 H1 locs1 → W p l e R s m args below meth c H1 locs1 cells slots Q (F0 m (pc + 3) ls (.int (jI r) :: rest))) : W p l e R s m args below meth c H locs cells slots Q (F0 m pc ls (.int (jI a1) :: .ref (jD G o) :: rest)) :=
  jr_callI B (jr_runV (o := o) (As := [.int (jI a1)]) (n := 1) C hl B (m_X6_associated B.2.2 k_o r_a1 h) (jE7 k_o) (by omega) rfl q1 q_239 q_240 q_241 q_1 ⟨by decide, by decide, by decide +kernel⟩ rfl ⟨rfl, rfl⟩ hR hcs rfl hW hdg) (fun r M' H1 locs1 hr hk B1 => by obtain ⟨rfl, hk⟩ := hk; exact kk r hr H1 locs1 hk B1)
def w_X6_listSize (N : Nat) (M : jM) (o : Int) (a1 : Int) (k : Int → Prop) : Prop := (w_X6_isBelow a1 8 (fun x1 => (if x1 = 0 then (k (-1000001)) else (w_X4_listedCount N M (o + 1) a1 (fun x2 => (k x2))))))
set_option maxHeartbeats 4000000 in
set_option maxRecDepth 100000 in
theorem m_X6_listSize {l : Launch} {G : jG} {N : Nat} {M : jM} {o a1 : Int} {k : Int → Prop} (o_M : jOK M) (k_o : jK o = 7) (r_a1 : jR a1) (h : w_X6_listSize N M o a1 k) : Met l yX6_listSize (wsG yX6_listSize cX6_listSize 2 (some .int)) (rmm 2 45) (jPc G M [.ref (jD G o), .int (jI a1)]) (qI G (fun r M' => M' = M ∧ k r)) 0 0 (gA G) := by
  refine jm_start RX6 rfl (by decide) (Nat.le_of_ble_eq_true rfl) o_M ?_
  intro p e s m args below meth c ls C hr hlocks hl B
  have hl : lv_has ls 2 [(0, .ref (jD G o)), (1, .int (jI a1))] := hl
  unfold w_X6_listSize at h
  refine lv_iload_n C.1 C.2.1 dX6_listSize_0 rfl (lv_at hl 1 rfl) ?_
  refine jr_bipush C dX6_listSize_1 (by decide) ?_
  refine cl_X6_isBelow C hl.1 B q_233 ⟨Nat.le_of_ble_eq_true rfl, Nat.le_of_ble_eq_true rfl⟩ ⟨Nat.zero_le _, Nat.zero_le _⟩ (Nat.le_of_ble_eq_true rfl) r_a1 (jkc rfl) h dX6_listSize_3 (fun x1 z_x1 _ _ h B => ?_)
  refine jr_if_ne (tgt := 12) C (zR z_x1) h dX6_listSize_6 (by decide) (fun hc6 h => ?_) (fun hc6 h => ?_)
  · refine jr_ldc (n := -1000001) C q_236 (by decide) dX6_listSize_9 ?_
    exact jr_iret C B hr hlocks (jkc rfl) ⟨rfl, h⟩ dX6_listSize_11
  · refine lv_aload_n C.1 C.2.1 dX6_listSize_12 rfl (lv_at hl 0 rfl) ?_
    refine gf_X6_12 C B k_o dX6_listSize_13 ?_
    refine lv_iload_n C.1 C.2.1 dX6_listSize_16 rfl (lv_at hl 1 rfl) ?_
    refine cl_X4_listedCount C hl.1 B q_246 ⟨Nat.le_of_ble_eq_true rfl, Nat.le_of_ble_eq_true rfl⟩ ⟨Nat.zero_le _, Nat.zero_le _⟩ (Nat.le_of_ble_eq_true rfl) (ko_X6_0 k_o) r_a1 h dX6_listSize_17 (fun x2 r_x2 _ _ h B => ?_)
    exact jr_iret C B hr hlocks r_x2 ⟨rfl, h⟩ dX6_listSize_20
theorem cl_X6_listSize {p : Program} {l : Launch} {e : Env} {R : Room} {s : State} {m : MethodId} {args : Array Value} {below : List Frame} {meth : Method} {c : Code} {H : Heap} {locs : List Loc} {cells slots : Nat} {Q : State → Prop} {cc : ByteArray} {nL : Nat} {own : String} {G : jG} {H0 : Heap} {pc idx : Nat} {ls : Array Slot} {rest : List Value} {N : Nat} {M : jM} {o a1 : Int} {k : Int → Prop} (C : Cx G p s args m c cc nL own) (hl : ls.size = nL) (B : Hp G M H0 H locs) (q1 : Cond.methodLink own idx yX6_listSize ∈ tb) (hR : (rmm 2 45).frames + 1 ≤ R.frames ∧ 8 + (2 + 11) + (rmm 2 45).locals ≤ R.locals) (hcs : cells ≤ R.cells ∧ slots ≤ R.slots) (hW : (rest.map fun v => v.category).sum ≤ 8) (k_o : jK o = 7) (r_a1 : jR a1) (h : w_X6_listSize N M o a1 k) (hdg : decode cc pc = .ok (.invokevirtual idx, 3)) (kk : ∀ (r : Int), jR r → ∀ (H1 : Heap) (locs1 : List Loc), k r → Hp G M H0 H1 locs1 → W p l e R s m args below meth c H1 locs1 cells slots Q (F0 m (pc + 3) ls (.int (jI r) :: rest))) : W p l e R s m args below meth c H locs cells slots Q (F0 m pc ls (.int (jI a1) :: .ref (jD G o) :: rest)) :=
  jr_callI B (jr_runV (o := o) (As := [.int (jI a1)]) (n := 1) C hl B (m_X6_listSize B.2.2 k_o r_a1 h) (jE7 k_o) (by omega) rfl q1 q_243 q_244 q_245 q_1 ⟨by decide, by decide, by decide +kernel⟩ rfl ⟨rfl, rfl⟩ hR hcs rfl hW hdg) (fun r M' H1 locs1 hr hk B1 => by obtain ⟨rfl, hk⟩ := hk; exact kk r hr H1 locs1 hk B1)
def lp_X6_listAt_24 (o : Int) (a1 : Int) (a2 : Int) (M : jM) (k : Int → Prop) (kx24 : Prop) : Nat → Int → Int → Prop
  | 0, _, _ => False
  | n + 1, x2, x3 => (if x3 < 100 then (w_X4_isListed M (o + 1) a1 x3 (fun x4 => (if x4 = 0 then (jL (jW (x3 + 1)) (fun x5 => (lp_X6_listAt_24 o a1 a2 M k kx24 n x2 x5))) else (if x2 = a2 then (k x3) else (jL (jW (x2 + 1)) (fun x6 => (jL (jW (x3 + 1)) (fun x7 => (lp_X6_listAt_24 o a1 a2 M k kx24 n x6 x7))))))))) else (kx24))
def w_X6_listAt (N : Nat) (M : jM) (o : Int) (a1 : Int) (a2 : Int) (k : Int → Prop) : Prop := (w_X6_isBelow a1 8 (fun x1 => (if x1 = 0 then (k (-1000001)) else (if a2 < 0 then (k (-1000002)) else (lp_X6_listAt_24 o a1 a2 M k ((k (-1000007))) N 0 0)))))
set_option maxHeartbeats 4000000 in
set_option maxRecDepth 100000 in
theorem m_X6_listAt {l : Launch} {G : jG} {N : Nat} {M : jM} {o a1 a2 : Int} {k : Int → Prop} (o_M : jOK M) (k_o : jK o = 7) (r_a1 : jR a1) (r_a2 : jR a2) (h : w_X6_listAt N M o a1 a2 k) : Met l yX6_listAt (wsG yX6_listAt cX6_listAt 5 (some .int)) (rmm 1 22) (jPc G M [.ref (jD G o), .int (jI a1), .int (jI a2)]) (qI G (fun r M' => M' = M ∧ k r)) 0 0 (gA G) := by
  refine jm_start RX6 rfl (by decide) (Nat.le_of_ble_eq_true rfl) o_M ?_
  intro p e s m args below meth c ls C hr hlocks hl B
  have hl : lv_has ls 5 [(0, .ref (jD G o)), (1, .int (jI a1)), (2, .int (jI a2))] := hl
  unfold w_X6_listAt at h
  refine lv_iload_n C.1 C.2.1 dX6_listAt_0 rfl (lv_at hl 1 rfl) ?_
  refine jr_bipush C dX6_listAt_1 (by decide) ?_
  refine cl_X6_isBelow C hl.1 B q_233 ⟨Nat.le_of_ble_eq_true rfl, Nat.le_of_ble_eq_true rfl⟩ ⟨Nat.zero_le _, Nat.zero_le _⟩ (Nat.le_of_ble_eq_true rfl) r_a1 (jkc rfl) h dX6_listAt_3 (fun x1 z_x1 _ _ h B => ?_)
  refine jr_if_ne (tgt := 12) C (zR z_x1) h dX6_listAt_6 (by decide) (fun hc6 h => ?_) (fun hc6 h => ?_)
  · refine jr_ldc (n := -1000001) C q_236 (by decide) dX6_listAt_9 ?_
    exact jr_iret C B hr hlocks (jkc rfl) ⟨rfl, h⟩ dX6_listAt_11
  · refine lv_iload_n C.1 C.2.1 dX6_listAt_12 rfl (lv_at hl 2 rfl) ?_
    refine jr_if_ge (tgt := 19) C r_a2 h dX6_listAt_13 (by decide) (fun hc13 h => ?_) (fun hc13 h => ?_)
    · refine jr_ldc (n := -1000002) C q_237 (by decide) dX6_listAt_16 ?_
      exact jr_iret C B hr hlocks (jkc rfl) ⟨rfl, h⟩ dX6_listAt_18
    · refine jr_iconst C dX6_listAt_19 ?_
      refine lv_istore_n (lv' := [(3, .int (jI 0)), (0, .ref (jD G o)), (1, .int (jI a1)), (2, .int (jI a2))]) C.1 C.2.1 dX6_listAt_20 rfl hl (by decide) rfl (fun ls hl => ?_)
      refine jr_iconst C dX6_listAt_21 ?_
      refine lv_istore (lv' := [(4, .int (jI 0)), (3, .int (jI 0)), (0, .ref (jD G o)), (1, .int (jI a1)), (2, .int (jI a2))]) C.1 C.2.1 dX6_listAt_22 hl (by decide) rfl (fun ls hl => ?_)
      obtain ⟨kx24, hkx24, h⟩ : ∃ kx24 : Prop, (∀ (H : Heap) (locs : List Loc) (ls : Array Slot), kx24 → Hp G M s.heap H locs → lv_has ls 5 [] → W p l e (rmm 1 22) s m args below meth c H locs 0 0 (MQ below (qI G (fun r M' => M' = M ∧ k r)) args s 0 0 (gA G)) (F0 m 61 ls [])) ∧ lp_X6_listAt_24 o a1 a2 M k kx24 N 0 0 := by
        refine ⟨_, ?_, h⟩
        intro H locs ls h  B hl
        refine jr_ldc (n := -1000007) C q_199 (by decide) dX6_listAt_61 ?_
        exact jr_iret C B hr hlocks (jkc rfl) ⟨rfl, h⟩ dX6_listAt_63
      have hL24 : ∀ (n : Nat) (x2 : Int) (x3 : Int) (H : Heap) (locs : List Loc) (ls : Array Slot), lp_X6_listAt_24 o a1 a2 M k kx24 n x2 x3 → jR x2 → jR x3 → Hp G M s.heap H locs → lv_has ls 5 [(3, .int (jI x2)), (4, .int (jI x3)), (0, .ref (jD G o)), (1, .int (jI a1)), (2, .int (jI a2))] → W p l e (rmm 1 22) s m args below meth c H locs 0 0 (MQ below (qI G (fun r M' => M' = M ∧ k r)) args s 0 0 (gA G)) (F0 m 24 ls []) := by
        intro n
        induction n with
        | zero => intro x2 x3 H locs ls h; exact (show False from h).elim
        | succ n ih24 =>
          intro x2 x3 H locs ls h r_x2 r_x3 B hl
          rw [lp_X6_listAt_24] at h
          refine lv_iload C.1 C.2.1 dX6_listAt_24 (lv_at hl 1 rfl) ?_
          refine jr_bipush C dX6_listAt_26 (by decide) ?_
          refine jr_icmp_ge (tgt := 61) C r_x3 (jkc rfl) h dX6_listAt_28 (by decide) (fun hc28 h => ?_) (fun hc28 h => ?_)
          · refine lv_aload_n C.1 C.2.1 dX6_listAt_31 rfl (lv_at hl 2 rfl) ?_
            refine gf_X6_12 C B k_o dX6_listAt_32 ?_
            refine lv_iload_n C.1 C.2.1 dX6_listAt_35 rfl (lv_at hl 3 rfl) ?_
            refine lv_iload C.1 C.2.1 dX6_listAt_36 (lv_at hl 1 rfl) ?_
            refine cl_X4_isListed C hl.1 B q_258 ⟨Nat.le_of_ble_eq_true rfl, Nat.le_of_ble_eq_true rfl⟩ ⟨Nat.zero_le _, Nat.zero_le _⟩ (Nat.le_of_ble_eq_true rfl) (ko_X6_0 k_o) r_a1 r_x3 h dX6_listAt_38 (fun x4 z_x4 _ _ h B => ?_)
            refine jr_if_eq (tgt := 55) C (zR z_x4) h dX6_listAt_41 (by decide) (fun hc41 h => ?_) (fun hc41 h => ?_)
            · refine jr_iinc (k := 1) (lv' := fun x5 => [(4, .int (jI x5)), (3, .int (jI x2)), (0, .ref (jD G o)), (1, .int (jI a1)), (2, .int (jI a2))]) C h hl rfl (by decide) (fun _ => rfl) dX6_listAt_55 (fun x5 h r_x5 ls hl => ?_)
              refine lv_goto (tgt := 24) C.1 C.2.1 dX6_listAt_58 (by decide) ?_
              exact ih24 _ _ _ _ _ h r_x2 r_x5 B (lv_sub hl [1, 0, 2, 3, 4] rfl)
            · refine lv_iload_n C.1 C.2.1 dX6_listAt_44 rfl (lv_at hl 0 rfl) ?_
              refine lv_iload_n C.1 C.2.1 dX6_listAt_45 rfl (lv_at hl 4 rfl) ?_
              refine jr_icmp_ne (tgt := 52) C r_x2 r_a2 h dX6_listAt_46 (by decide) (fun hc46 h => ?_) (fun hc46 h => ?_)
              · refine lv_iload C.1 C.2.1 dX6_listAt_49 (lv_at hl 1 rfl) ?_
                exact jr_iret C B hr hlocks r_x3 ⟨rfl, h⟩ dX6_listAt_51
              · refine jr_iinc (k := 0) (lv' := fun x6 => [(3, .int (jI x6)), (4, .int (jI x3)), (0, .ref (jD G o)), (1, .int (jI a1)), (2, .int (jI a2))]) C h hl rfl (by decide) (fun _ => rfl) dX6_listAt_52 (fun x6 h r_x6 ls hl => ?_)
                refine jr_iinc (k := 1) (lv' := fun x7 => [(4, .int (jI x7)), (3, .int (jI x6)), (0, .ref (jD G o)), (1, .int (jI a1)), (2, .int (jI a2))]) C h hl rfl (by decide) (fun _ => rfl) dX6_listAt_55 (fun x7 h r_x7 ls hl => ?_)
                refine lv_goto (tgt := 24) C.1 C.2.1 dX6_listAt_58 (by decide) ?_
                exact ih24 _ _ _ _ _ h r_x6 r_x7 B (lv_sub hl [1, 0, 2, 3, 4] rfl)
          · exact hkx24 _ _ _ h  B (lv_sub hl [] rfl)
      exact hL24 N _ _ _ _ _ h (jkc rfl) (jkc rfl) B (lv_sub hl [1, 0, 2, 3, 4] rfl)
theorem cl_X6_listAt {p : Program} {l : Launch} {e : Env} {R : Room} {s : State} {m : MethodId} {args : Array Value} {below : List Frame} {meth : Method} {c : Code} {H : Heap} {locs : List Loc} {cells slots : Nat} {Q : State → Prop} {cc : ByteArray} {nL : Nat} {own : String} {G : jG} {H0 : Heap} {pc idx : Nat} {ls : Array Slot} {rest : List Value} {N : Nat} {M : jM} {o a1 a2 : Int} {k : Int → Prop} (C : Cx G p s args m c cc nL own) (hl : ls.size = nL) (B : Hp G M H0 H locs) (q1 : Cond.methodLink own idx yX6_listAt ∈ tb) (hR : (rmm 1 22).frames + 1 ≤ R.frames ∧ 8 + (5 + 11) + (rmm 1 22).locals ≤ R.locals) (hcs : cells ≤ R.cells ∧ slots ≤ R.slots) (hW : (rest.map fun v => v.category).sum ≤ 8) (k_o : jK o = 7) (r_a1 : jR a1) (r_a2 : jR a2) (h : w_X6_listAt N M o a1 a2 k) (hdg : decode cc pc = .ok (.invokevirtual idx, 3)) (kk : ∀ (r : Int), jR r → ∀ (H1 : Heap) (locs1 : List Loc), k r → Hp G M H0 H1 locs1 → W p l e R s m args below meth c H1 locs1 cells slots Q (F0 m (pc + 3) ls (.int (jI r) :: rest))) : W p l e R s m args below meth c H locs cells slots Q (F0 m pc ls (.int (jI a2) :: .int (jI a1) :: .ref (jD G o) :: rest)) :=
  jr_callI B (jr_runV (o := o) (As := [.int (jI a1), .int (jI a2)]) (n := 2) C hl B (m_X6_listAt B.2.2 k_o r_a1 r_a2 h) (jE7 k_o) (by omega) rfl q1 q_255 q_256 q_257 q_1 ⟨by decide, by decide, by decide +kernel⟩ rfl ⟨rfl, rfl⟩ hR hcs rfl hW hdg) (fun r M' H1 locs1 hr hk B1 => by obtain ⟨rfl, hk⟩ := hk; exact kk r hr H1 locs1 hk B1)
def w_X6_numbers (N : Nat) (M : jM) (o : Int) (a1 : Int) (a2 : Int) (k : Int → jM → Prop) : Prop := (w_X4_find N M (o + 1) a1 (fun x1 => (if x1 < 0 then (k (-1000001) M) else (w_X6_isBelow a2 6 (fun x2 => (if x2 = 0 then (k (-1000001) M) else (w_X4_gather N M (o + 1) x1 a2 (o + 246) (fun M3 => (k (M3 (o + 246) 1) M3)))))))))
set_option maxHeartbeats 4000000 in
set_option maxRecDepth 100000 in
theorem m_X6_numbers {l : Launch} {G : jG} {N : Nat} {M : jM} {o a1 a2 : Int} {k : Int → jM → Prop} (o_M : jOK M) (k_o : jK o = 7) (r_a1 : jR a1) (r_a2 : jR a2) (h : w_X6_numbers N M o a1 a2 k) : Met l yX6_numbers (wsG yX6_numbers cX6_numbers 4 (some .int)) (rmm 4 93) (jPc G M [.ref (jD G o), .int (jI a1), .int (jI a2)]) (qI G k) 0 0 (gA G) := by
  refine jm_start RX6 rfl (by decide) (Nat.le_of_ble_eq_true rfl) o_M ?_
  intro p e s m args below meth c ls C hr hlocks hl B
  have hl : lv_has ls 4 [(0, .ref (jD G o)), (1, .int (jI a1)), (2, .int (jI a2))] := hl
  unfold w_X6_numbers at h
  refine lv_aload_n C.1 C.2.1 dX6_numbers_0 rfl (lv_at hl 0 rfl) ?_
  refine gf_X6_12 C B k_o dX6_numbers_1 ?_
  refine lv_iload_n C.1 C.2.1 dX6_numbers_4 rfl (lv_at hl 1 rfl) ?_
  refine cl_X4_find C hl.1 B q_271 ⟨Nat.le_of_ble_eq_true rfl, Nat.le_of_ble_eq_true rfl⟩ ⟨Nat.zero_le _, Nat.zero_le _⟩ (Nat.le_of_ble_eq_true rfl) (ko_X6_0 k_o) r_a1 h dX6_numbers_5 (fun x1 n_x1 _ _ h B => ?_)
  refine jr_astore_nN (lv' := [(3, jN G x1), (0, .ref (jD G o)), (1, .int (jI a1)), (2, .int (jI a2))]) C dX6_numbers_8 rfl hl (by decide) rfl (fun ls hl => ?_)
  refine jr_aload_nN C dX6_numbers_9 rfl (lv_at hl 0 rfl) ?_
  refine jr_ifnull (tgt := 22) C h dX6_numbers_10 (by decide) (fun hc10 h => ?_) (fun hc10 h => ?_)
  · refine jr_ldc (n := -1000001) C q_236 (by decide) dX6_numbers_22 ?_
    exact jr_iret C B hr hlocks (jkc rfl) h dX6_numbers_24
  · have k_x1 : jK x1 = 2 := n_x1.resolve_left hc10
    rw [jN_ref hc10] at hl
    refine lv_iload_n C.1 C.2.1 dX6_numbers_13 rfl (lv_at hl 3 rfl) ?_
    refine jr_bipush C dX6_numbers_14 (by decide) ?_
    refine cl_X6_isBelow C hl.1 B q_233 ⟨Nat.le_of_ble_eq_true rfl, Nat.le_of_ble_eq_true rfl⟩ ⟨Nat.zero_le _, Nat.zero_le _⟩ (Nat.le_of_ble_eq_true rfl) r_a2 (jkc rfl) h dX6_numbers_16 (fun x2 z_x2 _ _ h B => ?_)
    refine jr_if_ne (tgt := 25) C (zR z_x2) h dX6_numbers_19 (by decide) (fun hc19 h => ?_) (fun hc19 h => ?_)
    · refine jr_ldc (n := -1000001) C q_236 (by decide) dX6_numbers_22 ?_
      exact jr_iret C B hr hlocks (jkc rfl) h dX6_numbers_24
    · refine lv_aload_n C.1 C.2.1 dX6_numbers_25 rfl (lv_at hl 1 rfl) ?_
      refine gf_X6_12 C B k_o dX6_numbers_26 ?_
      refine lv_aload_n C.1 C.2.1 dX6_numbers_29 rfl (lv_at hl 0 rfl) ?_
      refine lv_iload_n C.1 C.2.1 dX6_numbers_30 rfl (lv_at hl 3 rfl) ?_
      refine lv_aload_n C.1 C.2.1 dX6_numbers_31 rfl (lv_at hl 1 rfl) ?_
      refine gf_X6_46 C B k_o dX6_numbers_32 ?_
      refine cl_X4_gather C hl.1 B q_342 ⟨Nat.le_of_ble_eq_true rfl, Nat.le_of_ble_eq_true rfl⟩ ⟨Nat.zero_le _, Nat.zero_le _⟩ (Nat.le_of_ble_eq_true rfl) (ko_X6_0 k_o) k_x1 r_a2 (ko_X6_6 k_o) h dX6_numbers_35 (fun M3 _ _ h B => ?_)
      have o_M3 := B.2.2
      refine lv_aload_n C.1 C.2.1 dX6_numbers_38 rfl (lv_at hl 1 rfl) ?_
      refine gf_X6_46 C B k_o dX6_numbers_39 ?_
      refine gf_X6_211 C B (ko_X6_6 k_o) dX6_numbers_42 ?_
      exact jr_iret C B hr hlocks (o_M3 (o + 246) 1).1 h dX6_numbers_45
theorem cl_X6_numbers {p : Program} {l : Launch} {e : Env} {R : Room} {s : State} {m : MethodId} {args : Array Value} {below : List Frame} {meth : Method} {c : Code} {H : Heap} {locs : List Loc} {cells slots : Nat} {Q : State → Prop} {cc : ByteArray} {nL : Nat} {own : String} {G : jG} {H0 : Heap} {pc idx : Nat} {ls : Array Slot} {rest : List Value} {N : Nat} {M : jM} {o a1 a2 : Int} {k : Int → jM → Prop} (C : Cx G p s args m c cc nL own) (hl : ls.size = nL) (B : Hp G M H0 H locs) (q1 : Cond.methodLink own idx yX6_numbers ∈ tb) (hR : (rmm 4 93).frames + 1 ≤ R.frames ∧ 8 + (4 + 11) + (rmm 4 93).locals ≤ R.locals) (hcs : cells ≤ R.cells ∧ slots ≤ R.slots) (hW : (rest.map fun v => v.category).sum ≤ 8) (k_o : jK o = 7) (r_a1 : jR a1) (r_a2 : jR a2) (h : w_X6_numbers N M o a1 a2 k) (hdg : decode cc pc = .ok (.invokevirtual idx, 3)) (kk : ∀ (r : Int) (M' : jM), jR r → ∀ (H1 : Heap) (locs1 : List Loc), k r M' → Hp G M' H0 H1 locs1 → W p l e R s m args below meth c H1 locs1 cells slots Q (F0 m (pc + 3) ls (.int (jI r) :: rest))) : W p l e R s m args below meth c H locs cells slots Q (F0 m pc ls (.int (jI a2) :: .int (jI a1) :: .ref (jD G o) :: rest)) :=
  jr_callI B (jr_runV (o := o) (As := [.int (jI a1), .int (jI a2)]) (n := 2) C hl B (m_X6_numbers B.2.2 k_o r_a1 r_a2 h) (jE7 k_o) (by omega) rfl q1 q_383 q_384 q_385 q_1 ⟨by decide, by decide, by decide +kernel⟩ rfl ⟨rfl, rfl⟩ hR hcs rfl hW hdg) (fun r M' H1 locs1 hr hk B1 => kk r M' hr H1 locs1 hk B1)
def w_X6_numberAt (N : Nat) (M : jM) (o : Int) (a1 : Int) (a2 : Int) (a3 : Int) (k : Int → jM → Prop) : Prop := (w_X4_find N M (o + 1) a1 (fun x1 => (if x1 < 0 then (k (-1000001) M) else (w_X6_isBelow a2 6 (fun x2 => (if x2 = 0 then (k (-1000001) M) else (if a3 < 0 then (k (-1000002) M) else (w_X4_gather N M (o + 1) x1 a2 (o + 246) (fun M3 => (if a3 < (M3 (o + 246) 1) then (w_X2_at M3 (o + 246) a3 (fun x4 => (k x4 M3))) else (k (-1000007) M3)))))))))))
set_option maxHeartbeats 4000000 in
set_option maxRecDepth 100000 in
theorem m_X6_numberAt {l : Launch} {G : jG} {N : Nat} {M : jM} {o a1 a2 a3 : Int} {k : Int → jM → Prop} (o_M : jOK M) (k_o : jK o = 7) (r_a1 : jR a1) (r_a2 : jR a2) (r_a3 : jR a3) (h : w_X6_numberAt N M o a1 a2 a3 k) : Met l yX6_numberAt (wsG yX6_numberAt cX6_numberAt 5 (some .int)) (rmm 4 93) (jPc G M [.ref (jD G o), .int (jI a1), .int (jI a2), .int (jI a3)]) (qI G k) 0 0 (gA G) := by
  refine jm_start RX6 rfl (by decide) (Nat.le_of_ble_eq_true rfl) o_M ?_
  intro p e s m args below meth c ls C hr hlocks hl B
  have hl : lv_has ls 5 [(0, .ref (jD G o)), (1, .int (jI a1)), (2, .int (jI a2)), (3, .int (jI a3))] := hl
  unfold w_X6_numberAt at h
  refine lv_aload_n C.1 C.2.1 dX6_numberAt_0 rfl (lv_at hl 0 rfl) ?_
  refine gf_X6_12 C B k_o dX6_numberAt_1 ?_
  refine lv_iload_n C.1 C.2.1 dX6_numberAt_4 rfl (lv_at hl 1 rfl) ?_
  refine cl_X4_find C hl.1 B q_271 ⟨Nat.le_of_ble_eq_true rfl, Nat.le_of_ble_eq_true rfl⟩ ⟨Nat.zero_le _, Nat.zero_le _⟩ (Nat.le_of_ble_eq_true rfl) (ko_X6_0 k_o) r_a1 h dX6_numberAt_5 (fun x1 n_x1 _ _ h B => ?_)
  refine jr_astoreN (lv' := [(4, jN G x1), (0, .ref (jD G o)), (1, .int (jI a1)), (2, .int (jI a2)), (3, .int (jI a3))]) C dX6_numberAt_8 hl (by decide) rfl (fun ls hl => ?_)
  refine jr_aloadN C dX6_numberAt_10 (lv_at hl 0 rfl) ?_
  refine jr_ifnull (tgt := 24) C h dX6_numberAt_12 (by decide) (fun hc12 h => ?_) (fun hc12 h => ?_)
  · refine jr_ldc (n := -1000001) C q_236 (by decide) dX6_numberAt_24 ?_
    exact jr_iret C B hr hlocks (jkc rfl) h dX6_numberAt_26
  · have k_x1 : jK x1 = 2 := n_x1.resolve_left hc12
    rw [jN_ref hc12] at hl
    refine lv_iload_n C.1 C.2.1 dX6_numberAt_15 rfl (lv_at hl 3 rfl) ?_
    refine jr_bipush C dX6_numberAt_16 (by decide) ?_
    refine cl_X6_isBelow C hl.1 B q_233 ⟨Nat.le_of_ble_eq_true rfl, Nat.le_of_ble_eq_true rfl⟩ ⟨Nat.zero_le _, Nat.zero_le _⟩ (Nat.le_of_ble_eq_true rfl) r_a2 (jkc rfl) h dX6_numberAt_18 (fun x2 z_x2 _ _ h B => ?_)
    refine jr_if_ne (tgt := 27) C (zR z_x2) h dX6_numberAt_21 (by decide) (fun hc21 h => ?_) (fun hc21 h => ?_)
    · refine jr_ldc (n := -1000001) C q_236 (by decide) dX6_numberAt_24 ?_
      exact jr_iret C B hr hlocks (jkc rfl) h dX6_numberAt_26
    · refine lv_iload_n C.1 C.2.1 dX6_numberAt_27 rfl (lv_at hl 4 rfl) ?_
      refine jr_if_ge (tgt := 34) C r_a3 h dX6_numberAt_28 (by decide) (fun hc28 h => ?_) (fun hc28 h => ?_)
      · refine jr_ldc (n := -1000002) C q_237 (by decide) dX6_numberAt_31 ?_
        exact jr_iret C B hr hlocks (jkc rfl) h dX6_numberAt_33
      · refine lv_aload_n C.1 C.2.1 dX6_numberAt_34 rfl (lv_at hl 1 rfl) ?_
        refine gf_X6_12 C B k_o dX6_numberAt_35 ?_
        refine lv_aload C.1 C.2.1 dX6_numberAt_38 (lv_at hl 0 rfl) ?_
        refine lv_iload_n C.1 C.2.1 dX6_numberAt_40 rfl (lv_at hl 3 rfl) ?_
        refine lv_aload_n C.1 C.2.1 dX6_numberAt_41 rfl (lv_at hl 1 rfl) ?_
        refine gf_X6_46 C B k_o dX6_numberAt_42 ?_
        refine cl_X4_gather C hl.1 B q_342 ⟨Nat.le_of_ble_eq_true rfl, Nat.le_of_ble_eq_true rfl⟩ ⟨Nat.zero_le _, Nat.zero_le _⟩ (Nat.le_of_ble_eq_true rfl) (ko_X6_0 k_o) k_x1 r_a2 (ko_X6_6 k_o) h dX6_numberAt_45 (fun M3 _ _ h B => ?_)
        have o_M3 := B.2.2
        refine lv_iload_n C.1 C.2.1 dX6_numberAt_48 rfl (lv_at hl 4 rfl) ?_
        refine lv_aload_n C.1 C.2.1 dX6_numberAt_49 rfl (lv_at hl 1 rfl) ?_
        refine gf_X6_46 C B k_o dX6_numberAt_50 ?_
        refine gf_X6_211 C B (ko_X6_6 k_o) dX6_numberAt_53 ?_
        refine jr_icmp_lt (tgt := 62) C r_a3 (o_M3 (o + 246) 1).1 h dX6_numberAt_56 (by decide) (fun hc56 h => ?_) (fun hc56 h => ?_)
        · refine lv_aload_n C.1 C.2.1 dX6_numberAt_62 rfl (lv_at hl 1 rfl) ?_
          refine gf_X6_46 C B k_o dX6_numberAt_63 ?_
          refine lv_iload_n C.1 C.2.1 dX6_numberAt_66 rfl (lv_at hl 4 rfl) ?_
          refine cl_X2_at C hl.1 B q_377 ⟨Nat.le_of_ble_eq_true rfl, Nat.le_of_ble_eq_true rfl⟩ ⟨Nat.zero_le _, Nat.zero_le _⟩ (Nat.le_of_ble_eq_true rfl) (ko_X6_6 k_o) r_a3 h dX6_numberAt_67 (fun x4 r_x4 _ _ h B => ?_)
          exact jr_iret C B hr hlocks r_x4 h dX6_numberAt_70
        · refine jr_ldc (n := -1000007) C q_199 (by decide) dX6_numberAt_59 ?_
          exact jr_iret C B hr hlocks (jkc rfl) h dX6_numberAt_61
theorem cl_X6_numberAt {p : Program} {l : Launch} {e : Env} {R : Room} {s : State} {m : MethodId} {args : Array Value} {below : List Frame} {meth : Method} {c : Code} {H : Heap} {locs : List Loc} {cells slots : Nat} {Q : State → Prop} {cc : ByteArray} {nL : Nat} {own : String} {G : jG} {H0 : Heap} {pc idx : Nat} {ls : Array Slot} {rest : List Value} {N : Nat} {M : jM} {o a1 a2 a3 : Int} {k : Int → jM → Prop} (C : Cx G p s args m c cc nL own) (hl : ls.size = nL) (B : Hp G M H0 H locs) (q1 : Cond.methodLink own idx yX6_numberAt ∈ tb) (hR : (rmm 4 93).frames + 1 ≤ R.frames ∧ 8 + (5 + 11) + (rmm 4 93).locals ≤ R.locals) (hcs : cells ≤ R.cells ∧ slots ≤ R.slots) (hW : (rest.map fun v => v.category).sum ≤ 8) (k_o : jK o = 7) (r_a1 : jR a1) (r_a2 : jR a2) (r_a3 : jR a3) (h : w_X6_numberAt N M o a1 a2 a3 k) (hdg : decode cc pc = .ok (.invokevirtual idx, 3)) (kk : ∀ (r : Int) (M' : jM), jR r → ∀ (H1 : Heap) (locs1 : List Loc), k r M' → Hp G M' H0 H1 locs1 → W p l e R s m args below meth c H1 locs1 cells slots Q (F0 m (pc + 3) ls (.int (jI r) :: rest))) : W p l e R s m args below meth c H locs cells slots Q (F0 m pc ls (.int (jI a3) :: .int (jI a2) :: .int (jI a1) :: .ref (jD G o) :: rest)) :=
  jr_callI B (jr_runV (o := o) (As := [.int (jI a1), .int (jI a2), .int (jI a3)]) (n := 3) C hl B (m_X6_numberAt B.2.2 k_o r_a1 r_a2 r_a3 h) (jE7 k_o) (by omega) rfl q1 q_339 q_340 q_341 q_1 ⟨by decide, by decide, by decide +kernel⟩ rfl ⟨rfl, rfl⟩ hR hcs rfl hW hdg) (fun r M' H1 locs1 hr hk B1 => kk r M' hr H1 locs1 hk B1)
def lp_X6_entryCount_4 (N : Nat) (o : Int) (a1 : Int) (kx4 : Int → jM → Prop) : Nat → Int → Int → jM → Prop
  | 0, _, _, _ => False
  | n + 1, x1, x2, M3 => (if x2 < (M3 (o + 1) 1) then (jB x2 10 ∧ (w_X4_gather N M3 (o + 1) (M3 ((o + 1) + 1) x2) a1 (o + 246) (fun M8 => (jL (jW (x1 + (M8 (o + 246) 1))) (fun x9 => (jL (jW (x2 + 1)) (fun x10 => (lp_X6_entryCount_4 N o a1 kx4 n x9 x10 M8)))))))) else (kx4 x1 M3))
def w_X6_entryCount (N : Nat) (M : jM) (o : Int) (a1 : Int) (k : Int → jM → Prop) : Prop := (lp_X6_entryCount_4 N o a1 (fun (x4 : Int) (M5 : jM) => (k x4 M5)) N 0 0 M)
set_option maxHeartbeats 4000000 in
set_option maxRecDepth 100000 in
theorem m_X6_entryCount {l : Launch} {G : jG} {N : Nat} {M : jM} {o a1 : Int} {k : Int → jM → Prop} (o_M : jOK M) (k_o : jK o = 7) (r_a1 : jR a1) (h : w_X6_entryCount N M o a1 k) : Met l yX6_entryCount (wsG yX6_entryCount cX6_entryCount 4 (some .int)) (rmm 4 93) (jPc G M [.ref (jD G o), .int (jI a1)]) (qI G k) 0 0 (gA G) := by
  refine jm_start RX6 rfl (by decide) (Nat.le_of_ble_eq_true rfl) o_M ?_
  intro p e s m args below meth c ls C hr hlocks hl B
  have hl : lv_has ls 4 [(0, .ref (jD G o)), (1, .int (jI a1))] := hl
  unfold w_X6_entryCount at h
  refine jr_iconst C dX6_entryCount_0 ?_
  refine lv_istore_n (lv' := [(2, .int (jI 0)), (0, .ref (jD G o)), (1, .int (jI a1))]) C.1 C.2.1 dX6_entryCount_1 rfl hl (by decide) rfl (fun ls hl => ?_)
  refine jr_iconst C dX6_entryCount_2 ?_
  refine lv_istore_n (lv' := [(3, .int (jI 0)), (2, .int (jI 0)), (0, .ref (jD G o)), (1, .int (jI a1))]) C.1 C.2.1 dX6_entryCount_3 rfl hl (by decide) rfl (fun ls hl => ?_)
  obtain ⟨kx4, hkx4, h⟩ : ∃ kx4 : Int → jM → Prop, (∀ (x4 : Int) (M5 : jM) (H : Heap) (locs : List Loc) (ls : Array Slot), kx4 x4 M5 → jR x4 → Hp G M5 s.heap H locs → lv_has ls 4 [(2, .int (jI x4))] → W p l e (rmm 4 93) s m args below meth c H locs 0 0 (MQ below (qI G k) args s 0 0 (gA G)) (F0 m 52 ls [])) ∧ lp_X6_entryCount_4 N o a1 kx4 N 0 0 M := by
    refine ⟨_, ?_, h⟩
    intro x4 M5 H locs ls h r_x4 B hl
    have o_M5 := B.2.2
    refine lv_iload_n C.1 C.2.1 dX6_entryCount_52 rfl (lv_at hl 0 rfl) ?_
    exact jr_iret C B hr hlocks r_x4 h dX6_entryCount_53
  have hL4 : ∀ (n : Nat) (x1 : Int) (x2 : Int) (M3 : jM) (H : Heap) (locs : List Loc) (ls : Array Slot), lp_X6_entryCount_4 N o a1 kx4 n x1 x2 M3 → jR x1 → jR x2 → Hp G M3 s.heap H locs → lv_has ls 4 [(2, .int (jI x1)), (3, .int (jI x2)), (0, .ref (jD G o)), (1, .int (jI a1))] → W p l e (rmm 4 93) s m args below meth c H locs 0 0 (MQ below (qI G k) args s 0 0 (gA G)) (F0 m 4 ls []) := by
    intro n
    induction n with
    | zero => intro x1 x2 M3 H locs ls h; exact (show False from h).elim
    | succ n ih4 =>
      intro x1 x2 M3 H locs ls h r_x1 r_x2 B hl
      have o_M3 := B.2.2
      rw [lp_X6_entryCount_4] at h
      refine lv_iload_n C.1 C.2.1 dX6_entryCount_4 rfl (lv_at hl 1 rfl) ?_
      refine lv_aload_n C.1 C.2.1 dX6_entryCount_5 rfl (lv_at hl 2 rfl) ?_
      refine gf_X6_12 C B k_o dX6_entryCount_6 ?_
      refine gf_X6_67 C B (ko_X6_0 k_o) dX6_entryCount_9 ?_
      refine jr_icmp_ge (tgt := 52) C r_x2 (o_M3 (o + 1) 1).1 h dX6_entryCount_12 (by decide) (fun hc12 h => ?_) (fun hc12 h => ?_)
      · refine lv_aload_n C.1 C.2.1 dX6_entryCount_15 rfl (lv_at hl 2 rfl) ?_
        refine gf_X6_12 C B k_o dX6_entryCount_16 ?_
        refine lv_aload_n C.1 C.2.1 dX6_entryCount_19 rfl (lv_at hl 2 rfl) ?_
        refine gf_X6_12 C B k_o dX6_entryCount_20 ?_
        refine gf_X6_189 C B (ko_X6_0 k_o) dX6_entryCount_23 ?_
        refine lv_iload_n C.1 C.2.1 dX6_entryCount_26 rfl (lv_at hl 1 rfl) ?_
        obtain ⟨g6, h⟩ := h
        refine jr_rald C B 10 (jk1 (ko_X4_0 (ko_X6_0 k_o)) rfl) (jk2 (ko_X4_0 (ko_X6_0 k_o)) rfl) r_x2 g6 dX6_entryCount_27 (fun kk7 => ?_)
        refine lv_iload_n C.1 C.2.1 dX6_entryCount_28 rfl (lv_at hl 3 rfl) ?_
        refine lv_aload_n C.1 C.2.1 dX6_entryCount_29 rfl (lv_at hl 2 rfl) ?_
        refine gf_X6_46 C B k_o dX6_entryCount_30 ?_
        refine cl_X4_gather C hl.1 B q_342 ⟨Nat.le_of_ble_eq_true rfl, Nat.le_of_ble_eq_true rfl⟩ ⟨Nat.zero_le _, Nat.zero_le _⟩ (Nat.le_of_ble_eq_true rfl) (ko_X6_0 k_o) kk7 r_a1 (ko_X6_6 k_o) h dX6_entryCount_33 (fun M8 _ _ h B => ?_)
        have o_M8 := B.2.2
        refine lv_iload_n C.1 C.2.1 dX6_entryCount_36 rfl (lv_at hl 0 rfl) ?_
        refine lv_aload_n C.1 C.2.1 dX6_entryCount_37 rfl (lv_at hl 2 rfl) ?_
        refine gf_X6_46 C B k_o dX6_entryCount_38 ?_
        refine gf_X6_211 C B (ko_X6_6 k_o) dX6_entryCount_41 ?_
        refine jr_iadd C dX6_entryCount_44 ?_
        refine jr_nm h (jW_R _) (fun x9 h r_x9 => ?_)
        refine lv_istore_n (lv' := [(2, .int (jI x9)), (3, .int (jI x2)), (0, .ref (jD G o)), (1, .int (jI a1))]) C.1 C.2.1 dX6_entryCount_45 rfl hl (by decide) rfl (fun ls hl => ?_)
        refine jr_iinc (k := 1) (lv' := fun x10 => [(3, .int (jI x10)), (2, .int (jI x9)), (0, .ref (jD G o)), (1, .int (jI a1))]) C h hl rfl (by decide) (fun _ => rfl) dX6_entryCount_46 (fun x10 h r_x10 ls hl => ?_)
        refine lv_goto (tgt := 4) C.1 C.2.1 dX6_entryCount_49 (by decide) ?_
        exact ih4 _ _ _ _ _ _ h r_x9 r_x10 B (lv_sub hl [1, 0, 2, 3] rfl)
      · exact hkx4 _ _ _ _ _ h r_x1 B (lv_sub hl [0] rfl)
  exact hL4 N _ _ _ _ _ _ h (jkc rfl) (jkc rfl) B (lv_sub hl [1, 0, 2, 3] rfl)
theorem cl_X6_entryCount {p : Program} {l : Launch} {e : Env} {R : Room} {s : State} {m : MethodId} {args : Array Value} {below : List Frame} {meth : Method} {c : Code} {H : Heap} {locs : List Loc} {cells slots : Nat} {Q : State → Prop} {cc : ByteArray} {nL : Nat} {own : String} {G : jG} {H0 : Heap} {pc idx : Nat} {ls : Array Slot} {rest : List Value} {N : Nat} {M : jM} {o a1 : Int} {k : Int → jM → Prop} (C : Cx G p s args m c cc nL own) (hl : ls.size = nL) (B : Hp G M H0 H locs) (q1 : Cond.methodLink own idx yX6_entryCount ∈ tb) (hR : (rmm 4 93).frames + 1 ≤ R.frames ∧ 8 + (4 + 11) + (rmm 4 93).locals ≤ R.locals) (hcs : cells ≤ R.cells ∧ slots ≤ R.slots) (hW : (rest.map fun v => v.category).sum ≤ 8) (k_o : jK o = 7) (r_a1 : jR a1) (h : w_X6_entryCount N M o a1 k) (hdg : decode cc pc = .ok (.invokevirtual idx, 3)) (kk : ∀ (r : Int) (M' : jM), jR r → ∀ (H1 : Heap) (locs1 : List Loc), k r M' → Hp G M' H0 H1 locs1 → W p l e R s m args below meth c H1 locs1 cells slots Q (F0 m (pc + 3) ls (.int (jI r) :: rest))) : W p l e R s m args below meth c H locs cells slots Q (F0 m pc ls (.int (jI a1) :: .ref (jD G o) :: rest)) :=
  jr_callI B (jr_runV (o := o) (As := [.int (jI a1)]) (n := 1) C hl B (m_X6_entryCount B.2.2 k_o r_a1 h) (jE7 k_o) (by omega) rfl q1 q_395 qs_0 q_396 q_1 ⟨by decide, by decide, by decide +kernel⟩ rfl ⟨rfl, rfl⟩ hR hcs rfl hW hdg) (fun r M' H1 locs1 hr hk B1 => kk r M' hr H1 locs1 hk B1)
def w_X6_exploded (N : Nat) (M : jM) (o : Int) (a1 : Int) (k : Int → jM → Prop) : Prop := (w_X6_isBelow a1 6 (fun x1 => (if x1 = 0 then (k (-1000001) M) else (w_X6_entryCount N M o a1 (fun x2 M3 => (k x2 M3))))))
set_option maxHeartbeats 4000000 in
set_option maxRecDepth 100000 in
theorem m_X6_exploded {l : Launch} {G : jG} {N : Nat} {M : jM} {o a1 : Int} {k : Int → jM → Prop} (o_M : jOK M) (k_o : jK o = 7) (r_a1 : jR a1) (h : w_X6_exploded N M o a1 k) : Met l yX6_exploded (wsG yX6_exploded cX6_exploded 2 (some .int)) (rmm 5 116) (jPc G M [.ref (jD G o), .int (jI a1)]) (qI G k) 0 0 (gA G) := by
  refine jm_start RX6 rfl (by decide) (Nat.le_of_ble_eq_true rfl) o_M ?_
  intro p e s m args below meth c ls C hr hlocks hl B
  have hl : lv_has ls 2 [(0, .ref (jD G o)), (1, .int (jI a1))] := hl
  unfold w_X6_exploded at h
  refine lv_iload_n C.1 C.2.1 dX6_exploded_0 rfl (lv_at hl 1 rfl) ?_
  refine jr_bipush C dX6_exploded_1 (by decide) ?_
  refine cl_X6_isBelow C hl.1 B q_233 ⟨Nat.le_of_ble_eq_true rfl, Nat.le_of_ble_eq_true rfl⟩ ⟨Nat.zero_le _, Nat.zero_le _⟩ (Nat.le_of_ble_eq_true rfl) r_a1 (jkc rfl) h dX6_exploded_3 (fun x1 z_x1 _ _ h B => ?_)
  refine jr_if_ne (tgt := 12) C (zR z_x1) h dX6_exploded_6 (by decide) (fun hc6 h => ?_) (fun hc6 h => ?_)
  · refine jr_ldc (n := -1000001) C q_236 (by decide) dX6_exploded_9 ?_
    exact jr_iret C B hr hlocks (jkc rfl) h dX6_exploded_11
  · refine lv_aload_n C.1 C.2.1 dX6_exploded_12 rfl (lv_at hl 0 rfl) ?_
    refine lv_iload_n C.1 C.2.1 dX6_exploded_13 rfl (lv_at hl 1 rfl) ?_
    refine cl_X6_entryCount C hl.1 B q_393 ⟨Nat.le_of_ble_eq_true rfl, Nat.le_of_ble_eq_true rfl⟩ ⟨Nat.zero_le _, Nat.zero_le _⟩ (Nat.le_of_ble_eq_true rfl) k_o r_a1 h dX6_exploded_14 (fun x2 M3 r_x2 _ _ h B => ?_)
    have o_M3 := B.2.2
    exact jr_iret C B hr hlocks r_x2 h dX6_exploded_17
theorem cl_X6_exploded {p : Program} {l : Launch} {e : Env} {R : Room} {s : State} {m : MethodId} {args : Array Value} {below : List Frame} {meth : Method} {c : Code} {H : Heap} {locs : List Loc} {cells slots : Nat} {Q : State → Prop} {cc : ByteArray} {nL : Nat} {own : String} {G : jG} {H0 : Heap} {pc idx : Nat} {ls : Array Slot} {rest : List Value} {N : Nat} {M : jM} {o a1 : Int} {k : Int → jM → Prop} (C : Cx G p s args m c cc nL own) (hl : ls.size = nL) (B : Hp G M H0 H locs) (q1 : Cond.methodLink own idx yX6_exploded ∈ tb) (hR : (rmm 5 116).frames + 1 ≤ R.frames ∧ 8 + (2 + 11) + (rmm 5 116).locals ≤ R.locals) (hcs : cells ≤ R.cells ∧ slots ≤ R.slots) (hW : (rest.map fun v => v.category).sum ≤ 8) (k_o : jK o = 7) (r_a1 : jR a1) (h : w_X6_exploded N M o a1 k) (hdg : decode cc pc = .ok (.invokevirtual idx, 3)) (kk : ∀ (r : Int) (M' : jM), jR r → ∀ (H1 : Heap) (locs1 : List Loc), k r M' → Hp G M' H0 H1 locs1 → W p l e R s m args below meth c H1 locs1 cells slots Q (F0 m (pc + 3) ls (.int (jI r) :: rest))) : W p l e R s m args below meth c H locs cells slots Q (F0 m pc ls (.int (jI a1) :: .ref (jD G o) :: rest)) :=
  jr_callI B (jr_runV (o := o) (As := [.int (jI a1)]) (n := 1) C hl B (m_X6_exploded B.2.2 k_o r_a1 h) (jE7 k_o) (by omega) rfl q1 q_390 q_391 q_392 q_1 ⟨by decide, by decide, by decide +kernel⟩ rfl ⟨rfl, rfl⟩ hR hcs rfl hW hdg) (fun r M' H1 locs1 hr hk B1 => kk r M' hr H1 locs1 hk B1)
def lp_X6_explode_49 (N : Nat) (o : Int) (x7 : Int) (kx49 : jM → Prop) : Nat → Int → jM → Prop
  | 0, _, _ => False
  | n + 1, x9, M10 => (if x9 < (M10 (o + 246) 1) then (w_X2_at M10 (o + 246) x9 (fun x13 => (w_X0_add N M10 (o + 248) x13 (M10 x7 0) x9 (fun M14 => (jL (jW (x9 + 1)) (fun x15 => (lp_X6_explode_49 N o x7 kx49 n x15 M14))))))) else (kx49 M10))
def lp_X6_explode_10 (N : Nat) (o : Int) (a1 : Int) (kx10 : jM → Prop) : Nat → Int → jM → Prop
  | 0, _, _ => False
  | n + 1, x2, M3 => (if x2 < (M3 (o + 1) 1) then (jB x2 10 ∧ (jL (M3 ((o + 1) + 1) x2) (fun x7 => (w_X4_gather N M3 (o + 1) x7 a1 (o + 246) (fun M8 => (lp_X6_explode_49 N o x7 (fun (M11 : jM) => (jL (jW (x2 + 1)) (fun x12 => (lp_X6_explode_10 N o a1 kx10 n x12 M11)))) N 0 M8)))))) else (kx10 M3))
def w_X6_explode (N : Nat) (M : jM) (o : Int) (a1 : Int) (a2 : Int) (k : jM → Prop) : Prop := (w_X0_begin M (o + 248) a2 (fun M1 => (lp_X6_explode_10 N o a1 (fun (M4 : jM) => (k M4)) N 0 M1)))
set_option maxHeartbeats 4000000 in
set_option maxRecDepth 100000 in
theorem m_X6_explode {l : Launch} {G : jG} {N : Nat} {M : jM} {o a1 a2 : Int} {k : jM → Prop} (o_M : jOK M) (k_o : jK o = 7) (r_a1 : jR a1) (z_a2 : a2 = 0 ∨ a2 = 1) (h : w_X6_explode N M o a1 a2 k) : Met l yX6_explode (wsG yX6_explode cX6_explode 6 none) (rmm 4 93) (jPc G M [.ref (jD G o), .int (jI a1), .int (jI a2)]) (qV G k) 0 0 (gA G) := by
  refine jm_start RX6 rfl (by decide) (Nat.le_of_ble_eq_true rfl) o_M ?_
  intro p e s m args below meth c ls C hr hlocks hl B
  have hl : lv_has ls 6 [(0, .ref (jD G o)), (1, .int (jI a1)), (2, .int (jI a2))] := hl
  unfold w_X6_explode at h
  refine lv_aload_n C.1 C.2.1 dX6_explode_0 rfl (lv_at hl 0 rfl) ?_
  refine gf_X6_53 C B k_o dX6_explode_1 ?_
  refine lv_iload_n C.1 C.2.1 dX6_explode_4 rfl (lv_at hl 2 rfl) ?_
  refine cl_X0_begin C hl.1 B q_414 ⟨Nat.le_of_ble_eq_true rfl, Nat.le_of_ble_eq_true rfl⟩ ⟨Nat.zero_le _, Nat.zero_le _⟩ (Nat.le_of_ble_eq_true rfl) (ko_X6_7 k_o) z_a2 h dX6_explode_5 (fun M1 _ _ h B => ?_)
  have o_M1 := B.2.2
  refine jr_iconst C dX6_explode_8 ?_
  refine lv_istore_n (lv' := [(3, .int (jI 0)), (0, .ref (jD G o)), (1, .int (jI a1)), (2, .int (jI a2))]) C.1 C.2.1 dX6_explode_9 rfl hl (by decide) rfl (fun ls hl => ?_)
  obtain ⟨kx10, hkx10, h⟩ : ∃ kx10 : jM → Prop, (∀ (M4 : jM) (H : Heap) (locs : List Loc) (ls : Array Slot), kx10 M4 → Hp G M4 s.heap H locs → lv_has ls 6 [] → W p l e (rmm 4 93) s m args below meth c H locs 0 0 (MQ below (qV G k) args s 0 0 (gA G)) (F0 m 96 ls [])) ∧ lp_X6_explode_10 N o a1 kx10 N 0 M1 := by
    refine ⟨_, ?_, h⟩
    intro M4 H locs ls h  B hl
    have o_M4 := B.2.2
    exact jr_vret C B hr hlocks h dX6_explode_96
  have hL10 : ∀ (n : Nat) (x2 : Int) (M3 : jM) (H : Heap) (locs : List Loc) (ls : Array Slot), lp_X6_explode_10 N o a1 kx10 n x2 M3 → jR x2 → Hp G M3 s.heap H locs → lv_has ls 6 [(3, .int (jI x2)), (0, .ref (jD G o)), (1, .int (jI a1))] → W p l e (rmm 4 93) s m args below meth c H locs 0 0 (MQ below (qV G k) args s 0 0 (gA G)) (F0 m 10 ls []) := by
    intro n
    induction n with
    | zero => intro x2 M3 H locs ls h; exact (show False from h).elim
    | succ n ih10 =>
      intro x2 M3 H locs ls h r_x2 B hl
      have o_M3 := B.2.2
      rw [lp_X6_explode_10] at h
      refine lv_iload_n C.1 C.2.1 dX6_explode_10 rfl (lv_at hl 0 rfl) ?_
      refine lv_aload_n C.1 C.2.1 dX6_explode_11 rfl (lv_at hl 1 rfl) ?_
      refine gf_X6_12 C B k_o dX6_explode_12 ?_
      refine gf_X6_67 C B (ko_X6_0 k_o) dX6_explode_15 ?_
      refine jr_icmp_ge (tgt := 96) C r_x2 (o_M3 (o + 1) 1).1 h dX6_explode_18 (by decide) (fun hc18 h => ?_) (fun hc18 h => ?_)
      · refine lv_aload_n C.1 C.2.1 dX6_explode_21 rfl (lv_at hl 1 rfl) ?_
        refine gf_X6_12 C B k_o dX6_explode_22 ?_
        refine gf_X6_189 C B (ko_X6_0 k_o) dX6_explode_25 ?_
        refine lv_iload_n C.1 C.2.1 dX6_explode_28 rfl (lv_at hl 0 rfl) ?_
        obtain ⟨g5, h⟩ := h
        refine jr_rald C B 10 (jk1 (ko_X4_0 (ko_X6_0 k_o)) rfl) (jk2 (ko_X4_0 (ko_X6_0 k_o)) rfl) r_x2 g5 dX6_explode_29 (fun kk6 => ?_)
        refine jr_nmr h kk6 (fun x7 h k_x7 => ?_)
        refine lv_astore (lv' := [(4, .ref (jD G x7)), (3, .int (jI x2)), (0, .ref (jD G o)), (1, .int (jI a1))]) C.1 C.2.1 dX6_explode_30 hl (by decide) rfl (fun ls hl => ?_)
        refine lv_aload_n C.1 C.2.1 dX6_explode_32 rfl (lv_at hl 2 rfl) ?_
        refine gf_X6_12 C B k_o dX6_explode_33 ?_
        refine lv_aload C.1 C.2.1 dX6_explode_36 (lv_at hl 0 rfl) ?_
        refine lv_iload_n C.1 C.2.1 dX6_explode_38 rfl (lv_at hl 3 rfl) ?_
        refine lv_aload_n C.1 C.2.1 dX6_explode_39 rfl (lv_at hl 2 rfl) ?_
        refine gf_X6_46 C B k_o dX6_explode_40 ?_
        refine cl_X4_gather C hl.1 B q_342 ⟨Nat.le_of_ble_eq_true rfl, Nat.le_of_ble_eq_true rfl⟩ ⟨Nat.zero_le _, Nat.zero_le _⟩ (Nat.le_of_ble_eq_true rfl) (ko_X6_0 k_o) k_x7 r_a1 (ko_X6_6 k_o) h dX6_explode_43 (fun M8 _ _ h B => ?_)
        have o_M8 := B.2.2
        refine jr_iconst C dX6_explode_46 ?_
        refine lv_istore (lv' := [(5, .int (jI 0)), (4, .ref (jD G x7)), (3, .int (jI x2)), (0, .ref (jD G o)), (1, .int (jI a1))]) C.1 C.2.1 dX6_explode_47 hl (by decide) rfl (fun ls hl => ?_)
        obtain ⟨kx49, hkx49, h⟩ : ∃ kx49 : jM → Prop, (∀ (M11 : jM) (H : Heap) (locs : List Loc) (ls : Array Slot), kx49 M11 → Hp G M11 s.heap H locs → lv_has ls 6 [(3, .int (jI x2)), (0, .ref (jD G o)), (1, .int (jI a1))] → W p l e (rmm 4 93) s m args below meth c H locs 0 0 (MQ below (qV G k) args s 0 0 (gA G)) (F0 m 90 ls [])) ∧ lp_X6_explode_49 N o x7 kx49 N 0 M8 := by
          refine ⟨_, ?_, h⟩
          intro M11 H locs ls h  B hl
          have o_M11 := B.2.2
          refine jr_iinc (k := 0) (lv' := fun x12 => [(3, .int (jI x12)), (0, .ref (jD G o)), (1, .int (jI a1))]) C h hl rfl (by decide) (fun _ => rfl) dX6_explode_90 (fun x12 h r_x12 ls hl => ?_)
          refine lv_goto (tgt := 10) C.1 C.2.1 dX6_explode_93 (by decide) ?_
          exact ih10 _ _ _ _ _ h r_x12 B (lv_sub hl [0, 1, 2] rfl)
        have hL49 : ∀ (n : Nat) (x9 : Int) (M10 : jM) (H : Heap) (locs : List Loc) (ls : Array Slot), lp_X6_explode_49 N o x7 kx49 n x9 M10 → jR x9 → Hp G M10 s.heap H locs → lv_has ls 6 [(5, .int (jI x9)), (4, .ref (jD G x7)), (3, .int (jI x2)), (0, .ref (jD G o)), (1, .int (jI a1))] → W p l e (rmm 4 93) s m args below meth c H locs 0 0 (MQ below (qV G k) args s 0 0 (gA G)) (F0 m 49 ls []) := by
          intro n
          induction n with
          | zero => intro x9 M10 H locs ls h; exact (show False from h).elim
          | succ n ih49 =>
            intro x9 M10 H locs ls h r_x9 B hl
            have o_M10 := B.2.2
            rw [lp_X6_explode_49] at h
            refine lv_iload C.1 C.2.1 dX6_explode_49 (lv_at hl 0 rfl) ?_
            refine lv_aload_n C.1 C.2.1 dX6_explode_51 rfl (lv_at hl 3 rfl) ?_
            refine gf_X6_46 C B k_o dX6_explode_52 ?_
            refine gf_X6_211 C B (ko_X6_6 k_o) dX6_explode_55 ?_
            refine jr_icmp_ge (tgt := 90) C r_x9 (o_M10 (o + 246) 1).1 h dX6_explode_58 (by decide) (fun hc58 h => ?_) (fun hc58 h => ?_)
            · refine lv_aload_n C.1 C.2.1 dX6_explode_61 rfl (lv_at hl 3 rfl) ?_
              refine gf_X6_53 C B k_o dX6_explode_62 ?_
              refine lv_aload_n C.1 C.2.1 dX6_explode_65 rfl (lv_at hl 3 rfl) ?_
              refine gf_X6_46 C B k_o dX6_explode_66 ?_
              refine lv_iload C.1 C.2.1 dX6_explode_69 (lv_at hl 0 rfl) ?_
              refine cl_X2_at C hl.1 B q_377 ⟨Nat.le_of_ble_eq_true rfl, Nat.le_of_ble_eq_true rfl⟩ ⟨Nat.zero_le _, Nat.zero_le _⟩ (Nat.le_of_ble_eq_true rfl) (ko_X6_6 k_o) r_x9 h dX6_explode_71 (fun x13 r_x13 _ _ h B => ?_)
              refine lv_aload C.1 C.2.1 dX6_explode_74 (lv_at hl 1 rfl) ?_
              refine gf_X6_201 C B k_x7 dX6_explode_76 ?_
              refine lv_iload C.1 C.2.1 dX6_explode_79 (lv_at hl 0 rfl) ?_
              refine cl_X0_add C hl.1 B q_418 ⟨Nat.le_of_ble_eq_true rfl, Nat.le_of_ble_eq_true rfl⟩ ⟨Nat.zero_le _, Nat.zero_le _⟩ (Nat.le_of_ble_eq_true rfl) (ko_X6_7 k_o) r_x13 (o_M10 x7 0).1 r_x9 h dX6_explode_81 (fun M14 _ _ h B => ?_)
              have o_M14 := B.2.2
              refine jr_iinc (k := 0) (lv' := fun x15 => [(5, .int (jI x15)), (4, .ref (jD G x7)), (3, .int (jI x2)), (0, .ref (jD G o)), (1, .int (jI a1))]) C h hl rfl (by decide) (fun _ => rfl) dX6_explode_84 (fun x15 h r_x15 ls hl => ?_)
              refine lv_goto (tgt := 49) C.1 C.2.1 dX6_explode_87 (by decide) ?_
              exact ih49 _ _ _ _ _ h r_x15 B (lv_sub hl [0, 1, 2, 3, 4] rfl)
            · exact hkx49 _ _ _ _ h  B (lv_sub hl [2, 3, 4] rfl)
        exact hL49 N _ _ _ _ _ h (jkc rfl) B (lv_sub hl [0, 1, 2, 3, 4] rfl)
      · exact hkx10 _ _ _ _ h  B (lv_sub hl [] rfl)
  exact hL10 N _ _ _ _ _ h (jkc rfl) B (lv_sub hl [0, 1, 2] rfl)
theorem cl_X6_explode {p : Program} {l : Launch} {e : Env} {R : Room} {s : State} {m : MethodId} {args : Array Value} {below : List Frame} {meth : Method} {c : Code} {H : Heap} {locs : List Loc} {cells slots : Nat} {Q : State → Prop} {cc : ByteArray} {nL : Nat} {own : String} {G : jG} {H0 : Heap} {pc idx : Nat} {ls : Array Slot} {rest : List Value} {N : Nat} {M : jM} {o a1 a2 : Int} {k : jM → Prop} (C : Cx G p s args m c cc nL own) (hl : ls.size = nL) (B : Hp G M H0 H locs) (q1 : Cond.methodLink own idx yX6_explode ∈ tb) (hR : (rmm 4 93).frames + 1 ≤ R.frames ∧ 8 + (6 + 11) + (rmm 4 93).locals ≤ R.locals) (hcs : cells ≤ R.cells ∧ slots ≤ R.slots) (hW : (rest.map fun v => v.category).sum ≤ 8) (k_o : jK o = 7) (r_a1 : jR a1) (z_a2 : a2 = 0 ∨ a2 = 1) (h : w_X6_explode N M o a1 a2 k) (hdg : decode cc pc = .ok (.invokevirtual idx, 3)) (kk : ∀ (M' : jM) (H1 : Heap) (locs1 : List Loc), k M' → Hp G M' H0 H1 locs1 → W p l e R s m args below meth c H1 locs1 cells slots Q (F0 m (pc + 3) ls rest)) : W p l e R s m args below meth c H locs cells slots Q (F0 m pc ls (.int (jI a2) :: .int (jI a1) :: .ref (jD G o) :: rest)) :=
  jr_callV B (jr_runV (o := o) (As := [.int (jI a1), .int (jI a2)]) (n := 2) C hl B (m_X6_explode B.2.2 k_o r_a1 z_a2 h) (jE7 k_o) (by omega) rfl q1 q_412 qs_2 q_413 q_1 ⟨by decide, by decide, by decide +kernel⟩ rfl ⟨rfl, rfl⟩ hR hcs rfl hW hdg) (fun M' H1 locs1 hk B1 => kk M' H1 locs1 hk B1)
def w_X6_explodedAt (N : Nat) (M : jM) (o : Int) (a1 : Int) (a2 : Int) (a3 : Int) (a4 : Int) (k : Int → jM → Prop) : Prop := (w_X6_isBelow a1 6 (fun x1 => (if x1 = 0 then (k (-1000001) M) else (if a3 < 0 then (k (-1000002) M) else (if a4 < 0 then (k (-1000002) M) else (if a4 ≤ 2 then (w_X6_explode N M o a1 a2 (fun M2 => (if a3 < (M2 (o + 248) 3) then (if a4 = 0 then (jB a3 200 ∧ (k (M2 ((o + 248) + 1) a3) M2)) else (if a4 = 1 then (jB a3 200 ∧ (k (M2 ((o + 248) + 2) a3) M2)) else (jB a3 200 ∧ (k (M2 ((o + 248) + 3) a3) M2)))) else (k (-1000007) M2)))) else (k (-1000002) M)))))))
set_option maxHeartbeats 4000000 in
set_option maxRecDepth 100000 in
theorem m_X6_explodedAt {l : Launch} {G : jG} {N : Nat} {M : jM} {o a1 a2 a3 a4 : Int} {k : Int → jM → Prop} (o_M : jOK M) (k_o : jK o = 7) (r_a1 : jR a1) (z_a2 : a2 = 0 ∨ a2 = 1) (r_a3 : jR a3) (r_a4 : jR a4) (h : w_X6_explodedAt N M o a1 a2 a3 a4 k) : Met l yX6_explodedAt (wsG yX6_explodedAt cX6_explodedAt 5 (some .int)) (rmm 5 118) (jPc G M [.ref (jD G o), .int (jI a1), .int (jI a2), .int (jI a3), .int (jI a4)]) (qI G k) 0 0 (gA G) := by
  refine jm_start RX6 rfl (by decide) (Nat.le_of_ble_eq_true rfl) o_M ?_
  intro p e s m args below meth c ls C hr hlocks hl B
  have hl : lv_has ls 5 [(0, .ref (jD G o)), (1, .int (jI a1)), (2, .int (jI a2)), (3, .int (jI a3)), (4, .int (jI a4))] := hl
  unfold w_X6_explodedAt at h
  refine lv_iload_n C.1 C.2.1 dX6_explodedAt_0 rfl (lv_at hl 1 rfl) ?_
  refine jr_bipush C dX6_explodedAt_1 (by decide) ?_
  refine cl_X6_isBelow C hl.1 B q_233 ⟨Nat.le_of_ble_eq_true rfl, Nat.le_of_ble_eq_true rfl⟩ ⟨Nat.zero_le _, Nat.zero_le _⟩ (Nat.le_of_ble_eq_true rfl) r_a1 (jkc rfl) h dX6_explodedAt_3 (fun x1 z_x1 _ _ h B => ?_)
  refine jr_if_ne (tgt := 12) C (zR z_x1) h dX6_explodedAt_6 (by decide) (fun hc6 h => ?_) (fun hc6 h => ?_)
  · refine jr_ldc (n := -1000001) C q_236 (by decide) dX6_explodedAt_9 ?_
    exact jr_iret C B hr hlocks (jkc rfl) h dX6_explodedAt_11
  · refine lv_iload_n C.1 C.2.1 dX6_explodedAt_12 rfl (lv_at hl 3 rfl) ?_
    refine jr_if_lt (tgt := 27) C r_a3 h dX6_explodedAt_13 (by decide) (fun hc13 h => ?_) (fun hc13 h => ?_)
    · refine jr_ldc (n := -1000002) C q_237 (by decide) dX6_explodedAt_27 ?_
      exact jr_iret C B hr hlocks (jkc rfl) h dX6_explodedAt_29
    · refine lv_iload C.1 C.2.1 dX6_explodedAt_16 (lv_at hl 4 rfl) ?_
      refine jr_if_lt (tgt := 27) C r_a4 h dX6_explodedAt_18 (by decide) (fun hc18 h => ?_) (fun hc18 h => ?_)
      · refine jr_ldc (n := -1000002) C q_237 (by decide) dX6_explodedAt_27 ?_
        exact jr_iret C B hr hlocks (jkc rfl) h dX6_explodedAt_29
      · refine lv_iload C.1 C.2.1 dX6_explodedAt_21 (lv_at hl 4 rfl) ?_
        refine jr_iconst C dX6_explodedAt_23 ?_
        refine jr_icmp_le (tgt := 30) C r_a4 (jkc rfl) h dX6_explodedAt_24 (by decide) (fun hc24 h => ?_) (fun hc24 h => ?_)
        · refine lv_aload_n C.1 C.2.1 dX6_explodedAt_30 rfl (lv_at hl 0 rfl) ?_
          refine lv_iload_n C.1 C.2.1 dX6_explodedAt_31 rfl (lv_at hl 1 rfl) ?_
          refine lv_iload_n C.1 C.2.1 dX6_explodedAt_32 rfl (lv_at hl 2 rfl) ?_
          refine cl_X6_explode C hl.1 B q_410 ⟨Nat.le_of_ble_eq_true rfl, Nat.le_of_ble_eq_true rfl⟩ ⟨Nat.zero_le _, Nat.zero_le _⟩ (Nat.le_of_ble_eq_true rfl) k_o r_a1 z_a2 h dX6_explodedAt_33 (fun M2 _ _ h B => ?_)
          have o_M2 := B.2.2
          refine lv_iload_n C.1 C.2.1 dX6_explodedAt_36 rfl (lv_at hl 3 rfl) ?_
          refine lv_aload_n C.1 C.2.1 dX6_explodedAt_37 rfl (lv_at hl 0 rfl) ?_
          refine gf_X6_53 C B k_o dX6_explodedAt_38 ?_
          refine gf_X6_261 C B (ko_X6_7 k_o) dX6_explodedAt_41 ?_
          refine jr_icmp_lt (tgt := 50) C r_a3 (o_M2 (o + 248) 3).1 h dX6_explodedAt_44 (by decide) (fun hc44 h => ?_) (fun hc44 h => ?_)
          · refine lv_iload C.1 C.2.1 dX6_explodedAt_50 (lv_at hl 4 rfl) ?_
            by_cases hs52_0 : a4 = 0
            · rw [if_pos hs52_0] at h
              refine jr_lookup (off := 28) (tgt := 80) C r_a4 (by decide) (by rw [hs52_0]; decide) dX6_explodedAt_52 (by decide) ?_
              refine lv_aload_n C.1 C.2.1 dX6_explodedAt_80 rfl (lv_at hl 0 rfl) ?_
              refine gf_X6_53 C B k_o dX6_explodedAt_81 ?_
              refine gf_X6_262 C B (ko_X6_7 k_o) dX6_explodedAt_84 ?_
              refine lv_iload_n C.1 C.2.1 dX6_explodedAt_87 rfl (lv_at hl 3 rfl) ?_
              obtain ⟨g3, h⟩ := h
              refine jr_iald C B 200 (jk1 (ko_X0_0 (ko_X6_7 k_o)) rfl) (jk2 (ko_X0_0 (ko_X6_7 k_o)) rfl) r_a3 g3 dX6_explodedAt_88 ?_
              exact jr_iret C B hr hlocks (o_M2 ((o + 248) + 1) a3).1 h dX6_explodedAt_89
            · rw [if_neg hs52_0] at h
              by_cases hs52_1 : a4 = 1
              · rw [if_pos hs52_1] at h
                refine jr_lookup (off := 38) (tgt := 90) C r_a4 (by decide) (by rw [hs52_1]; decide) dX6_explodedAt_52 (by decide) ?_
                refine lv_aload_n C.1 C.2.1 dX6_explodedAt_90 rfl (lv_at hl 0 rfl) ?_
                refine gf_X6_53 C B k_o dX6_explodedAt_91 ?_
                refine gf_X6_265 C B (ko_X6_7 k_o) dX6_explodedAt_94 ?_
                refine lv_iload_n C.1 C.2.1 dX6_explodedAt_97 rfl (lv_at hl 3 rfl) ?_
                obtain ⟨g4, h⟩ := h
                refine jr_iald C B 200 (jk1 (ko_X0_1 (ko_X6_7 k_o)) rfl) (jk2 (ko_X0_1 (ko_X6_7 k_o)) rfl) r_a3 g4 dX6_explodedAt_98 ?_
                exact jr_iret C B hr hlocks (o_M2 ((o + 248) + 2) a3).1 h dX6_explodedAt_99
              · rw [if_neg hs52_1] at h
                refine jr_lookup (off := 48) (tgt := 100) C r_a4 (by decide) (by simp [Op.lookupswitch.offset, hs52_0, Ne.symm hs52_0, hs52_1, Ne.symm hs52_1]) dX6_explodedAt_52 (by decide) ?_
                refine lv_aload_n C.1 C.2.1 dX6_explodedAt_100 rfl (lv_at hl 0 rfl) ?_
                refine gf_X6_53 C B k_o dX6_explodedAt_101 ?_
                refine gf_X6_268 C B (ko_X6_7 k_o) dX6_explodedAt_104 ?_
                refine lv_iload_n C.1 C.2.1 dX6_explodedAt_107 rfl (lv_at hl 3 rfl) ?_
                obtain ⟨g5, h⟩ := h
                refine jr_iald C B 200 (jk1 (ko_X0_2 (ko_X6_7 k_o)) rfl) (jk2 (ko_X0_2 (ko_X6_7 k_o)) rfl) r_a3 g5 dX6_explodedAt_108 ?_
                exact jr_iret C B hr hlocks (o_M2 ((o + 248) + 3) a3).1 h dX6_explodedAt_109
          · refine jr_ldc (n := -1000007) C q_199 (by decide) dX6_explodedAt_47 ?_
            exact jr_iret C B hr hlocks (jkc rfl) h dX6_explodedAt_49
        · refine jr_ldc (n := -1000002) C q_237 (by decide) dX6_explodedAt_27 ?_
          exact jr_iret C B hr hlocks (jkc rfl) h dX6_explodedAt_29
theorem cl_X6_explodedAt {p : Program} {l : Launch} {e : Env} {R : Room} {s : State} {m : MethodId} {args : Array Value} {below : List Frame} {meth : Method} {c : Code} {H : Heap} {locs : List Loc} {cells slots : Nat} {Q : State → Prop} {cc : ByteArray} {nL : Nat} {own : String} {G : jG} {H0 : Heap} {pc idx : Nat} {ls : Array Slot} {rest : List Value} {N : Nat} {M : jM} {o a1 a2 a3 a4 : Int} {k : Int → jM → Prop} (C : Cx G p s args m c cc nL own) (hl : ls.size = nL) (B : Hp G M H0 H locs) (q1 : Cond.methodLink own idx yX6_explodedAt ∈ tb) (hR : (rmm 5 118).frames + 1 ≤ R.frames ∧ 8 + (5 + 11) + (rmm 5 118).locals ≤ R.locals) (hcs : cells ≤ R.cells ∧ slots ≤ R.slots) (hW : (rest.map fun v => v.category).sum ≤ 8) (k_o : jK o = 7) (r_a1 : jR a1) (z_a2 : a2 = 0 ∨ a2 = 1) (r_a3 : jR a3) (r_a4 : jR a4) (h : w_X6_explodedAt N M o a1 a2 a3 a4 k) (hdg : decode cc pc = .ok (.invokevirtual idx, 3)) (kk : ∀ (r : Int) (M' : jM), jR r → ∀ (H1 : Heap) (locs1 : List Loc), k r M' → Hp G M' H0 H1 locs1 → W p l e R s m args below meth c H1 locs1 cells slots Q (F0 m (pc + 3) ls (.int (jI r) :: rest))) : W p l e R s m args below meth c H locs cells slots Q (F0 m pc ls (.int (jI a4) :: .int (jI a3) :: .int (jI a2) :: .int (jI a1) :: .ref (jD G o) :: rest)) :=
  jr_callI B (jr_runV (o := o) (As := [.int (jI a1), .int (jI a2), .int (jI a3), .int (jI a4)]) (n := 4) C hl B (m_X6_explodedAt B.2.2 k_o r_a1 z_a2 r_a3 r_a4 h) (jE7 k_o) (by omega) rfl q1 q_407 q_408 q_409 q_1 ⟨by decide, by decide, by decide +kernel⟩ rfl ⟨rfl, rfl⟩ hR hcs rfl hW hdg) (fun r M' H1 locs1 hr hk B1 => kk r M' hr H1 locs1 hk B1)
def lp_X6_sumOf_5 (N : Nat) (o : Int) (a1 : Int) (a2 : Int) (kx5 : Int → jM → Prop) : Nat → Int → Int → jM → Prop
  | 0, _, _, _ => False
  | n + 1, x1, x2, M3 => (if x2 < (M3 (o + 1) 1) then (jB x2 10 ∧ (jL (M3 ((o + 1) + 1) x2) (fun x8 => (if a2 = (-1) then (w_X4_gather N M3 (o + 1) x8 a1 (o + 246) (fun M9 => (w_X2_sum N M9 (o + 246) (fun x10 => (jL (jW (x1 + x10)) (fun x11 => (jL (jW (x2 + 1)) (fun x12 => (lp_X6_sumOf_5 N o a1 a2 kx5 n x11 x12 M9))))))))) else (w_X4_isListed M3 (o + 1) a2 (M3 x8 0) (fun x13 => (if x13 = 0 then (jL (jW (x2 + 1)) (fun x14 => (lp_X6_sumOf_5 N o a1 a2 kx5 n x1 x14 M3))) else (w_X4_gather N M3 (o + 1) x8 a1 (o + 246) (fun M15 => (w_X2_sum N M15 (o + 246) (fun x16 => (jL (jW (x1 + x16)) (fun x17 => (jL (jW (x2 + 1)) (fun x18 => (lp_X6_sumOf_5 N o a1 a2 kx5 n x17 x18 M15)))))))))))))))) else (kx5 x1 M3))
def w_X6_sumOf (N : Nat) (M : jM) (o : Int) (a1 : Int) (a2 : Int) (k : Int → jM → Prop) : Prop := (lp_X6_sumOf_5 N o a1 a2 (fun (x4 : Int) (M5 : jM) => (k x4 M5)) N 0 0 M)
set_option maxHeartbeats 4000000 in
set_option maxRecDepth 100000 in
theorem m_X6_sumOf {l : Launch} {G : jG} {N : Nat} {M : jM} {o a1 a2 : Int} {k : Int → jM → Prop} (o_M : jOK M) (k_o : jK o = 7) (r_a1 : jR a1) (r_a2 : jR a2) (h : w_X6_sumOf N M o a1 a2 k) : Met l yX6_sumOf (wsG yX6_sumOf cX6_sumOf 6 (some .int)) (rmm 4 93) (jPc G M [.ref (jD G o), .int (jI a1), .int (jI a2)]) (qI G k) 0 0 (gA G) := by
  refine jm_start RX6 rfl (by decide) (Nat.le_of_ble_eq_true rfl) o_M ?_
  intro p e s m args below meth c ls C hr hlocks hl B
  have hl : lv_has ls 6 [(0, .ref (jD G o)), (1, .int (jI a1)), (2, .int (jI a2))] := hl
  unfold w_X6_sumOf at h
  refine jr_iconst C dX6_sumOf_0 ?_
  refine lv_istore_n (lv' := [(3, .int (jI 0)), (0, .ref (jD G o)), (1, .int (jI a1)), (2, .int (jI a2))]) C.1 C.2.1 dX6_sumOf_1 rfl hl (by decide) rfl (fun ls hl => ?_)
  refine jr_iconst C dX6_sumOf_2 ?_
  refine lv_istore (lv' := [(4, .int (jI 0)), (3, .int (jI 0)), (0, .ref (jD G o)), (1, .int (jI a1)), (2, .int (jI a2))]) C.1 C.2.1 dX6_sumOf_3 hl (by decide) rfl (fun ls hl => ?_)
  obtain ⟨kx5, hkx5, h⟩ : ∃ kx5 : Int → jM → Prop, (∀ (x4 : Int) (M5 : jM) (H : Heap) (locs : List Loc) (ls : Array Slot), kx5 x4 M5 → jR x4 → Hp G M5 s.heap H locs → lv_has ls 6 [(3, .int (jI x4))] → W p l e (rmm 4 93) s m args below meth c H locs 0 0 (MQ below (qI G k) args s 0 0 (gA G)) (F0 m 80 ls [])) ∧ lp_X6_sumOf_5 N o a1 a2 kx5 N 0 0 M := by
    refine ⟨_, ?_, h⟩
    intro x4 M5 H locs ls h r_x4 B hl
    have o_M5 := B.2.2
    refine lv_iload_n C.1 C.2.1 dX6_sumOf_80 rfl (lv_at hl 0 rfl) ?_
    exact jr_iret C B hr hlocks r_x4 h dX6_sumOf_81
  have hL5 : ∀ (n : Nat) (x1 : Int) (x2 : Int) (M3 : jM) (H : Heap) (locs : List Loc) (ls : Array Slot), lp_X6_sumOf_5 N o a1 a2 kx5 n x1 x2 M3 → jR x1 → jR x2 → Hp G M3 s.heap H locs → lv_has ls 6 [(3, .int (jI x1)), (4, .int (jI x2)), (0, .ref (jD G o)), (1, .int (jI a1)), (2, .int (jI a2))] → W p l e (rmm 4 93) s m args below meth c H locs 0 0 (MQ below (qI G k) args s 0 0 (gA G)) (F0 m 5 ls []) := by
    intro n
    induction n with
    | zero => intro x1 x2 M3 H locs ls h; exact (show False from h).elim
    | succ n ih5 =>
      intro x1 x2 M3 H locs ls h r_x1 r_x2 B hl
      have o_M3 := B.2.2
      rw [lp_X6_sumOf_5] at h
      refine lv_iload C.1 C.2.1 dX6_sumOf_5 (lv_at hl 1 rfl) ?_
      refine lv_aload_n C.1 C.2.1 dX6_sumOf_7 rfl (lv_at hl 2 rfl) ?_
      refine gf_X6_12 C B k_o dX6_sumOf_8 ?_
      refine gf_X6_67 C B (ko_X6_0 k_o) dX6_sumOf_11 ?_
      refine jr_icmp_ge (tgt := 80) C r_x2 (o_M3 (o + 1) 1).1 h dX6_sumOf_14 (by decide) (fun hc14 h => ?_) (fun hc14 h => ?_)
      · refine lv_aload_n C.1 C.2.1 dX6_sumOf_17 rfl (lv_at hl 2 rfl) ?_
        refine gf_X6_12 C B k_o dX6_sumOf_18 ?_
        refine gf_X6_189 C B (ko_X6_0 k_o) dX6_sumOf_21 ?_
        refine lv_iload C.1 C.2.1 dX6_sumOf_24 (lv_at hl 1 rfl) ?_
        obtain ⟨g6, h⟩ := h
        refine jr_rald C B 10 (jk1 (ko_X4_0 (ko_X6_0 k_o)) rfl) (jk2 (ko_X4_0 (ko_X6_0 k_o)) rfl) r_x2 g6 dX6_sumOf_26 (fun kk7 => ?_)
        refine jr_nmr h kk7 (fun x8 h k_x8 => ?_)
        refine lv_astore (lv' := [(5, .ref (jD G x8)), (3, .int (jI x1)), (4, .int (jI x2)), (0, .ref (jD G o)), (1, .int (jI a1)), (2, .int (jI a2))]) C.1 C.2.1 dX6_sumOf_27 hl (by decide) rfl (fun ls hl => ?_)
        refine lv_iload_n C.1 C.2.1 dX6_sumOf_29 rfl (lv_at hl 5 rfl) ?_
        refine jr_iconst C dX6_sumOf_30 ?_
        refine jr_icmp_eq (tgt := 50) C r_a2 (jkc rfl) h dX6_sumOf_31 (by decide) (fun hc31 h => ?_) (fun hc31 h => ?_)
        · refine lv_aload_n C.1 C.2.1 dX6_sumOf_50 rfl (lv_at hl 3 rfl) ?_
          refine gf_X6_12 C B k_o dX6_sumOf_51 ?_
          refine lv_aload C.1 C.2.1 dX6_sumOf_54 (lv_at hl 0 rfl) ?_
          refine lv_iload_n C.1 C.2.1 dX6_sumOf_56 rfl (lv_at hl 4 rfl) ?_
          refine lv_aload_n C.1 C.2.1 dX6_sumOf_57 rfl (lv_at hl 3 rfl) ?_
          refine gf_X6_46 C B k_o dX6_sumOf_58 ?_
          refine cl_X4_gather C hl.1 B q_342 ⟨Nat.le_of_ble_eq_true rfl, Nat.le_of_ble_eq_true rfl⟩ ⟨Nat.zero_le _, Nat.zero_le _⟩ (Nat.le_of_ble_eq_true rfl) (ko_X6_0 k_o) k_x8 r_a1 (ko_X6_6 k_o) h dX6_sumOf_61 (fun M9 _ _ h B => ?_)
          have o_M9 := B.2.2
          refine lv_iload_n C.1 C.2.1 dX6_sumOf_64 rfl (lv_at hl 1 rfl) ?_
          refine lv_aload_n C.1 C.2.1 dX6_sumOf_65 rfl (lv_at hl 3 rfl) ?_
          refine gf_X6_46 C B k_o dX6_sumOf_66 ?_
          refine cl_X2_sum C hl.1 B q_405 ⟨Nat.le_of_ble_eq_true rfl, Nat.le_of_ble_eq_true rfl⟩ ⟨Nat.zero_le _, Nat.zero_le _⟩ (Nat.le_of_ble_eq_true rfl) (ko_X6_6 k_o) h dX6_sumOf_69 (fun x10 r_x10 _ _ h B => ?_)
          refine jr_iadd C dX6_sumOf_72 ?_
          refine jr_nm h (jW_R _) (fun x11 h r_x11 => ?_)
          refine lv_istore_n (lv' := [(3, .int (jI x11)), (5, .ref (jD G x8)), (4, .int (jI x2)), (0, .ref (jD G o)), (1, .int (jI a1)), (2, .int (jI a2))]) C.1 C.2.1 dX6_sumOf_73 rfl hl (by decide) rfl (fun ls hl => ?_)
          refine jr_iinc (k := 2) (lv' := fun x12 => [(4, .int (jI x12)), (3, .int (jI x11)), (5, .ref (jD G x8)), (0, .ref (jD G o)), (1, .int (jI a1)), (2, .int (jI a2))]) C h hl rfl (by decide) (fun _ => rfl) dX6_sumOf_74 (fun x12 h r_x12 ls hl => ?_)
          refine lv_goto (tgt := 5) C.1 C.2.1 dX6_sumOf_77 (by decide) ?_
          exact ih5 _ _ _ _ _ _ h r_x11 r_x12 B (lv_sub hl [1, 0, 3, 4, 5] rfl)
        · refine lv_aload_n C.1 C.2.1 dX6_sumOf_34 rfl (lv_at hl 3 rfl) ?_
          refine gf_X6_12 C B k_o dX6_sumOf_35 ?_
          refine lv_iload_n C.1 C.2.1 dX6_sumOf_38 rfl (lv_at hl 5 rfl) ?_
          refine lv_aload C.1 C.2.1 dX6_sumOf_39 (lv_at hl 0 rfl) ?_
          refine gf_X6_201 C B k_x8 dX6_sumOf_41 ?_
          refine cl_X4_isListed C hl.1 B q_258 ⟨Nat.le_of_ble_eq_true rfl, Nat.le_of_ble_eq_true rfl⟩ ⟨Nat.zero_le _, Nat.zero_le _⟩ (Nat.le_of_ble_eq_true rfl) (ko_X6_0 k_o) r_a2 (o_M3 x8 0).1 h dX6_sumOf_44 (fun x13 z_x13 _ _ h B => ?_)
          refine jr_if_eq (tgt := 74) C (zR z_x13) h dX6_sumOf_47 (by decide) (fun hc47 h => ?_) (fun hc47 h => ?_)
          · refine jr_iinc (k := 2) (lv' := fun x14 => [(4, .int (jI x14)), (5, .ref (jD G x8)), (3, .int (jI x1)), (0, .ref (jD G o)), (1, .int (jI a1)), (2, .int (jI a2))]) C h hl rfl (by decide) (fun _ => rfl) dX6_sumOf_74 (fun x14 h r_x14 ls hl => ?_)
            refine lv_goto (tgt := 5) C.1 C.2.1 dX6_sumOf_77 (by decide) ?_
            exact ih5 _ _ _ _ _ _ h r_x1 r_x14 B (lv_sub hl [2, 0, 3, 4, 5] rfl)
          · refine lv_aload_n C.1 C.2.1 dX6_sumOf_50 rfl (lv_at hl 3 rfl) ?_
            refine gf_X6_12 C B k_o dX6_sumOf_51 ?_
            refine lv_aload C.1 C.2.1 dX6_sumOf_54 (lv_at hl 0 rfl) ?_
            refine lv_iload_n C.1 C.2.1 dX6_sumOf_56 rfl (lv_at hl 4 rfl) ?_
            refine lv_aload_n C.1 C.2.1 dX6_sumOf_57 rfl (lv_at hl 3 rfl) ?_
            refine gf_X6_46 C B k_o dX6_sumOf_58 ?_
            refine cl_X4_gather C hl.1 B q_342 ⟨Nat.le_of_ble_eq_true rfl, Nat.le_of_ble_eq_true rfl⟩ ⟨Nat.zero_le _, Nat.zero_le _⟩ (Nat.le_of_ble_eq_true rfl) (ko_X6_0 k_o) k_x8 r_a1 (ko_X6_6 k_o) h dX6_sumOf_61 (fun M15 _ _ h B => ?_)
            have o_M15 := B.2.2
            refine lv_iload_n C.1 C.2.1 dX6_sumOf_64 rfl (lv_at hl 1 rfl) ?_
            refine lv_aload_n C.1 C.2.1 dX6_sumOf_65 rfl (lv_at hl 3 rfl) ?_
            refine gf_X6_46 C B k_o dX6_sumOf_66 ?_
            refine cl_X2_sum C hl.1 B q_405 ⟨Nat.le_of_ble_eq_true rfl, Nat.le_of_ble_eq_true rfl⟩ ⟨Nat.zero_le _, Nat.zero_le _⟩ (Nat.le_of_ble_eq_true rfl) (ko_X6_6 k_o) h dX6_sumOf_69 (fun x16 r_x16 _ _ h B => ?_)
            refine jr_iadd C dX6_sumOf_72 ?_
            refine jr_nm h (jW_R _) (fun x17 h r_x17 => ?_)
            refine lv_istore_n (lv' := [(3, .int (jI x17)), (5, .ref (jD G x8)), (4, .int (jI x2)), (0, .ref (jD G o)), (1, .int (jI a1)), (2, .int (jI a2))]) C.1 C.2.1 dX6_sumOf_73 rfl hl (by decide) rfl (fun ls hl => ?_)
            refine jr_iinc (k := 2) (lv' := fun x18 => [(4, .int (jI x18)), (3, .int (jI x17)), (5, .ref (jD G x8)), (0, .ref (jD G o)), (1, .int (jI a1)), (2, .int (jI a2))]) C h hl rfl (by decide) (fun _ => rfl) dX6_sumOf_74 (fun x18 h r_x18 ls hl => ?_)
            refine lv_goto (tgt := 5) C.1 C.2.1 dX6_sumOf_77 (by decide) ?_
            exact ih5 _ _ _ _ _ _ h r_x17 r_x18 B (lv_sub hl [1, 0, 3, 4, 5] rfl)
      · exact hkx5 _ _ _ _ _ h r_x1 B (lv_sub hl [0] rfl)
  exact hL5 N _ _ _ _ _ _ h (jkc rfl) (jkc rfl) B (lv_sub hl [1, 0, 2, 3, 4] rfl)
theorem cl_X6_sumOf {p : Program} {l : Launch} {e : Env} {R : Room} {s : State} {m : MethodId} {args : Array Value} {below : List Frame} {meth : Method} {c : Code} {H : Heap} {locs : List Loc} {cells slots : Nat} {Q : State → Prop} {cc : ByteArray} {nL : Nat} {own : String} {G : jG} {H0 : Heap} {pc idx : Nat} {ls : Array Slot} {rest : List Value} {N : Nat} {M : jM} {o a1 a2 : Int} {k : Int → jM → Prop} (C : Cx G p s args m c cc nL own) (hl : ls.size = nL) (B : Hp G M H0 H locs) (q1 : Cond.methodLink own idx yX6_sumOf ∈ tb) (hR : (rmm 4 93).frames + 1 ≤ R.frames ∧ 8 + (6 + 11) + (rmm 4 93).locals ≤ R.locals) (hcs : cells ≤ R.cells ∧ slots ≤ R.slots) (hW : (rest.map fun v => v.category).sum ≤ 8) (k_o : jK o = 7) (r_a1 : jR a1) (r_a2 : jR a2) (h : w_X6_sumOf N M o a1 a2 k) (hdg : decode cc pc = .ok (.invokevirtual idx, 3)) (kk : ∀ (r : Int) (M' : jM), jR r → ∀ (H1 : Heap) (locs1 : List Loc), k r M' → Hp G M' H0 H1 locs1 → W p l e R s m args below meth c H1 locs1 cells slots Q (F0 m (pc + 3) ls (.int (jI r) :: rest))) : W p l e R s m args below meth c H locs cells slots Q (F0 m pc ls (.int (jI a2) :: .int (jI a1) :: .ref (jD G o) :: rest)) :=
  jr_callI B (jr_runV (o := o) (As := [.int (jI a1), .int (jI a2)]) (n := 2) C hl B (m_X6_sumOf B.2.2 k_o r_a1 r_a2 h) (jE7 k_o) (by omega) rfl q1 q_403 qs_1 q_404 q_1 ⟨by decide, by decide, by decide +kernel⟩ rfl ⟨rfl, rfl⟩ hR hcs rfl hW hdg) (fun r M' H1 locs1 hr hk B1 => kk r M' hr H1 locs1 hk B1)
def w_X6_total (N : Nat) (M : jM) (o : Int) (a1 : Int) (a2 : Int) (k : Int → jM → Prop) : Prop := (w_X6_isBelow a1 6 (fun x1 => (if x1 = 0 then (k (-1000001) M) else (if a2 = (-1) then (w_X6_sumOf N M o a1 a2 (fun x2 M3 => (k x2 M3))) else (w_X6_isBelow a2 8 (fun x4 => (if x4 = 0 then (k (-1000001) M) else (w_X6_sumOf N M o a1 a2 (fun x5 M6 => (k x5 M6))))))))))
set_option maxHeartbeats 4000000 in
set_option maxRecDepth 100000 in
theorem m_X6_total {l : Launch} {G : jG} {N : Nat} {M : jM} {o a1 a2 : Int} {k : Int → jM → Prop} (o_M : jOK M) (k_o : jK o = 7) (r_a1 : jR a1) (r_a2 : jR a2) (h : w_X6_total N M o a1 a2 k) : Met l yX6_total (wsG yX6_total cX6_total 3 (some .int)) (rmm 5 118) (jPc G M [.ref (jD G o), .int (jI a1), .int (jI a2)]) (qI G k) 0 0 (gA G) := by
  refine jm_start RX6 rfl (by decide) (Nat.le_of_ble_eq_true rfl) o_M ?_
  intro p e s m args below meth c ls C hr hlocks hl B
  have hl : lv_has ls 3 [(0, .ref (jD G o)), (1, .int (jI a1)), (2, .int (jI a2))] := hl
  unfold w_X6_total at h
  refine lv_iload_n C.1 C.2.1 dX6_total_0 rfl (lv_at hl 1 rfl) ?_
  refine jr_bipush C dX6_total_1 (by decide) ?_
  refine cl_X6_isBelow C hl.1 B q_233 ⟨Nat.le_of_ble_eq_true rfl, Nat.le_of_ble_eq_true rfl⟩ ⟨Nat.zero_le _, Nat.zero_le _⟩ (Nat.le_of_ble_eq_true rfl) r_a1 (jkc rfl) h dX6_total_3 (fun x1 z_x1 _ _ h B => ?_)
  refine jr_if_eq (tgt := 23) C (zR z_x1) h dX6_total_6 (by decide) (fun hc6 h => ?_) (fun hc6 h => ?_)
  · refine jr_ldc (n := -1000001) C q_236 (by decide) dX6_total_23 ?_
    exact jr_iret C B hr hlocks (jkc rfl) h dX6_total_25
  · refine lv_iload_n C.1 C.2.1 dX6_total_9 rfl (lv_at hl 2 rfl) ?_
    refine jr_iconst C dX6_total_10 ?_
    refine jr_icmp_eq (tgt := 26) C r_a2 (jkc rfl) h dX6_total_11 (by decide) (fun hc11 h => ?_) (fun hc11 h => ?_)
    · refine lv_aload_n C.1 C.2.1 dX6_total_26 rfl (lv_at hl 0 rfl) ?_
      refine lv_iload_n C.1 C.2.1 dX6_total_27 rfl (lv_at hl 1 rfl) ?_
      refine lv_iload_n C.1 C.2.1 dX6_total_28 rfl (lv_at hl 2 rfl) ?_
      refine cl_X6_sumOf C hl.1 B q_401 ⟨Nat.le_of_ble_eq_true rfl, Nat.le_of_ble_eq_true rfl⟩ ⟨Nat.zero_le _, Nat.zero_le _⟩ (Nat.le_of_ble_eq_true rfl) k_o r_a1 r_a2 h dX6_total_29 (fun x2 M3 r_x2 _ _ h B => ?_)
      have o_M3 := B.2.2
      exact jr_iret C B hr hlocks r_x2 h dX6_total_32
    · refine lv_iload_n C.1 C.2.1 dX6_total_14 rfl (lv_at hl 2 rfl) ?_
      refine jr_bipush C dX6_total_15 (by decide) ?_
      refine cl_X6_isBelow C hl.1 B q_233 ⟨Nat.le_of_ble_eq_true rfl, Nat.le_of_ble_eq_true rfl⟩ ⟨Nat.zero_le _, Nat.zero_le _⟩ (Nat.le_of_ble_eq_true rfl) r_a2 (jkc rfl) h dX6_total_17 (fun x4 z_x4 _ _ h B => ?_)
      refine jr_if_ne (tgt := 26) C (zR z_x4) h dX6_total_20 (by decide) (fun hc20 h => ?_) (fun hc20 h => ?_)
      · refine jr_ldc (n := -1000001) C q_236 (by decide) dX6_total_23 ?_
        exact jr_iret C B hr hlocks (jkc rfl) h dX6_total_25
      · refine lv_aload_n C.1 C.2.1 dX6_total_26 rfl (lv_at hl 0 rfl) ?_
        refine lv_iload_n C.1 C.2.1 dX6_total_27 rfl (lv_at hl 1 rfl) ?_
        refine lv_iload_n C.1 C.2.1 dX6_total_28 rfl (lv_at hl 2 rfl) ?_
        refine cl_X6_sumOf C hl.1 B q_401 ⟨Nat.le_of_ble_eq_true rfl, Nat.le_of_ble_eq_true rfl⟩ ⟨Nat.zero_le _, Nat.zero_le _⟩ (Nat.le_of_ble_eq_true rfl) k_o r_a1 r_a2 h dX6_total_29 (fun x5 M6 r_x5 _ _ h B => ?_)
        have o_M6 := B.2.2
        exact jr_iret C B hr hlocks r_x5 h dX6_total_32
theorem cl_X6_total {p : Program} {l : Launch} {e : Env} {R : Room} {s : State} {m : MethodId} {args : Array Value} {below : List Frame} {meth : Method} {c : Code} {H : Heap} {locs : List Loc} {cells slots : Nat} {Q : State → Prop} {cc : ByteArray} {nL : Nat} {own : String} {G : jG} {H0 : Heap} {pc idx : Nat} {ls : Array Slot} {rest : List Value} {N : Nat} {M : jM} {o a1 a2 : Int} {k : Int → jM → Prop} (C : Cx G p s args m c cc nL own) (hl : ls.size = nL) (B : Hp G M H0 H locs) (q1 : Cond.methodLink own idx yX6_total ∈ tb) (hR : (rmm 5 118).frames + 1 ≤ R.frames ∧ 8 + (3 + 11) + (rmm 5 118).locals ≤ R.locals) (hcs : cells ≤ R.cells ∧ slots ≤ R.slots) (hW : (rest.map fun v => v.category).sum ≤ 8) (k_o : jK o = 7) (r_a1 : jR a1) (r_a2 : jR a2) (h : w_X6_total N M o a1 a2 k) (hdg : decode cc pc = .ok (.invokevirtual idx, 3)) (kk : ∀ (r : Int) (M' : jM), jR r → ∀ (H1 : Heap) (locs1 : List Loc), k r M' → Hp G M' H0 H1 locs1 → W p l e R s m args below meth c H1 locs1 cells slots Q (F0 m (pc + 3) ls (.int (jI r) :: rest))) : W p l e R s m args below meth c H locs cells slots Q (F0 m pc ls (.int (jI a2) :: .int (jI a1) :: .ref (jD G o) :: rest)) :=
  jr_callI B (jr_runV (o := o) (As := [.int (jI a1), .int (jI a2)]) (n := 2) C hl B (m_X6_total B.2.2 k_o r_a1 r_a2 h) (jE7 k_o) (by omega) rfl q1 q_398 q_399 q_400 q_1 ⟨by decide, by decide, by decide +kernel⟩ rfl ⟨rfl, rfl⟩ hR hcs rfl hW hdg) (fun r M' H1 locs1 hr hk B1 => kk r M' hr H1 locs1 hk B1)
def w_X6_mean (N : Nat) (M : jM) (o : Int) (a1 : Int) (k : UInt32 → jM → Prop) : Prop := (w_X6_isBelow a1 6 (fun x1 => (if x1 = 0 then (k 3388220416 M) else (w_X6_entryCount N M o a1 (fun x2 M3 => (if x2 = 0 then (k FP.fconst0 M3) else (w_X6_sumOf N M3 o a1 (-1) (fun x4 M5 => (vf_n32 (FP.fdiv (FP.i2f (jI x4)) (FP.i2f (jI x2))) ∧ (k (FP.fdiv (FP.i2f (jI x4)) (FP.i2f (jI x2))) M5))))))))))
set_option maxHeartbeats 4000000 in
set_option maxRecDepth 100000 in
theorem m_X6_mean {l : Launch} {G : jG} {N : Nat} {M : jM} {o a1 : Int} {k : UInt32 → jM → Prop} (o_M : jOK M) (k_o : jK o = 7) (r_a1 : jR a1) (h : w_X6_mean N M o a1 k) : Met l yX6_mean (wsG yX6_mean cX6_mean 3 (some .float)) (rmm 5 118) (jPc G M [.ref (jD G o), .int (jI a1)]) (qF G k) 0 0 (gA G) := by
  refine jm_start RX6 rfl (by decide) (Nat.le_of_ble_eq_true rfl) o_M ?_
  intro p e s m args below meth c ls C hr hlocks hl B
  have hl : lv_has ls 3 [(0, .ref (jD G o)), (1, .int (jI a1))] := hl
  unfold w_X6_mean at h
  refine lv_iload_n C.1 C.2.1 dX6_mean_0 rfl (lv_at hl 1 rfl) ?_
  refine jr_bipush C dX6_mean_1 (by decide) ?_
  refine cl_X6_isBelow C hl.1 B q_233 ⟨Nat.le_of_ble_eq_true rfl, Nat.le_of_ble_eq_true rfl⟩ ⟨Nat.zero_le _, Nat.zero_le _⟩ (Nat.le_of_ble_eq_true rfl) r_a1 (jkc rfl) h dX6_mean_3 (fun x1 z_x1 _ _ h B => ?_)
  refine jr_if_ne (tgt := 13) C (zR z_x1) h dX6_mean_6 (by decide) (fun hc6 h => ?_) (fun hc6 h => ?_)
  · refine jr_ldcwf C q_438 dX6_mean_9 ?_
    exact jr_fret C B hr hlocks h dX6_mean_12
  · refine lv_aload_n C.1 C.2.1 dX6_mean_13 rfl (lv_at hl 0 rfl) ?_
    refine lv_iload_n C.1 C.2.1 dX6_mean_14 rfl (lv_at hl 1 rfl) ?_
    refine cl_X6_entryCount C hl.1 B q_393 ⟨Nat.le_of_ble_eq_true rfl, Nat.le_of_ble_eq_true rfl⟩ ⟨Nat.zero_le _, Nat.zero_le _⟩ (Nat.le_of_ble_eq_true rfl) k_o r_a1 h dX6_mean_15 (fun x2 M3 r_x2 _ _ h B => ?_)
    have o_M3 := B.2.2
    refine lv_istore_n (lv' := [(2, .int (jI x2)), (0, .ref (jD G o)), (1, .int (jI a1))]) C.1 C.2.1 dX6_mean_18 rfl hl (by decide) rfl (fun ls hl => ?_)
    refine lv_iload_n C.1 C.2.1 dX6_mean_19 rfl (lv_at hl 0 rfl) ?_
    refine jr_if_ne (tgt := 25) C r_x2 h dX6_mean_20 (by decide) (fun hc20 h => ?_) (fun hc20 h => ?_)
    · refine lv_fconst0 C.1 C.2.1 dX6_mean_23 ?_
      exact jr_fret C B hr hlocks h dX6_mean_24
    · refine lv_aload_n C.1 C.2.1 dX6_mean_25 rfl (lv_at hl 1 rfl) ?_
      refine lv_iload_n C.1 C.2.1 dX6_mean_26 rfl (lv_at hl 2 rfl) ?_
      refine jr_iconst C dX6_mean_27 ?_
      refine cl_X6_sumOf C hl.1 B q_401 ⟨Nat.le_of_ble_eq_true rfl, Nat.le_of_ble_eq_true rfl⟩ ⟨Nat.zero_le _, Nat.zero_le _⟩ (Nat.le_of_ble_eq_true rfl) k_o r_a1 (jkc rfl) h dX6_mean_28 (fun x4 M5 r_x4 _ _ h B => ?_)
      have o_M5 := B.2.2
      refine lv_i2f C.1 C.2.1 dX6_mean_31 ?_
      refine lv_iload_n C.1 C.2.1 dX6_mean_32 rfl (lv_at hl 0 rfl) ?_
      refine lv_i2f C.1 C.2.1 dX6_mean_33 ?_
      obtain ⟨g6, h⟩ := h
      refine lv_fdiv C.1 C.2.1 dX6_mean_34 g6 ?_
      exact jr_fret C B hr hlocks h dX6_mean_35
theorem cl_X6_mean {p : Program} {l : Launch} {e : Env} {R : Room} {s : State} {m : MethodId} {args : Array Value} {below : List Frame} {meth : Method} {c : Code} {H : Heap} {locs : List Loc} {cells slots : Nat} {Q : State → Prop} {cc : ByteArray} {nL : Nat} {own : String} {G : jG} {H0 : Heap} {pc idx : Nat} {ls : Array Slot} {rest : List Value} {N : Nat} {M : jM} {o a1 : Int} {k : UInt32 → jM → Prop} (C : Cx G p s args m c cc nL own) (hl : ls.size = nL) (B : Hp G M H0 H locs) (q1 : Cond.methodLink own idx yX6_mean ∈ tb) (hR : (rmm 5 118).frames + 1 ≤ R.frames ∧ 8 + (3 + 11) + (rmm 5 118).locals ≤ R.locals) (hcs : cells ≤ R.cells ∧ slots ≤ R.slots) (hW : (rest.map fun v => v.category).sum ≤ 8) (k_o : jK o = 7) (r_a1 : jR a1) (h : w_X6_mean N M o a1 k) (hdg : decode cc pc = .ok (.invokevirtual idx, 3)) (kk : ∀ (r : UInt32) (M' : jM), ∀ (H1 : Heap) (locs1 : List Loc), k r M' → Hp G M' H0 H1 locs1 → W p l e R s m args below meth c H1 locs1 cells slots Q (F0 m (pc + 3) ls (.float r :: rest))) : W p l e R s m args below meth c H locs cells slots Q (F0 m pc ls (.int (jI a1) :: .ref (jD G o) :: rest)) :=
  jr_callFl B (jr_runV (o := o) (As := [.int (jI a1)]) (n := 1) C hl B (m_X6_mean B.2.2 k_o r_a1 h) (jE7 k_o) (by omega) rfl q1 q_435 q_436 q_437 q_1 ⟨by decide, by decide, by decide +kernel⟩ rfl ⟨rfl, rfl⟩ hR hcs rfl hW hdg) (fun r M' H1 locs1 hk B1 => kk r M' H1 locs1 hk B1)
def lp_X6_repeated_25 (o : Int) (M2 : jM) (kx25 : Int → Prop) : Nat → Int → Int → Int → Prop
  | 0, _, _, _ => False
  | n + 1, x3, x4, x5 => (if x5 < (M2 (o + 248) 3) then (jB x5 200 ∧ (jB (jW (x5 - 1)) 200 ∧ (jL (fun (x9 : Int) => (if x9 = 0 then (if (1 : Int) = 2 then (jL (jW (x3 + 1)) (fun x11 => (jL (jW (x5 + 1)) (fun x12 => (lp_X6_repeated_25 o M2 kx25 n x11 1 x12))))) else (jL (jW (x5 + 1)) (fun x13 => (lp_X6_repeated_25 o M2 kx25 n x3 1 x13)))) else (jL (jW (x4 + 1)) (fun x14 => (if x14 = 2 then (jL (jW (x3 + 1)) (fun x15 => (jL (jW (x5 + 1)) (fun x16 => (lp_X6_repeated_25 o M2 kx25 n x15 x14 x16))))) else (jL (jW (x5 + 1)) (fun x17 => (lp_X6_repeated_25 o M2 kx25 n x3 x14 x17)))))))) (fun j59_10 => (if (M2 ((o + 248) + 1) x5) = (M2 ((o + 248) + 1) (jW (x5 - 1))) then (j59_10 1) else (j59_10 0)))))) else (kx25 x3))
def w_X6_repeated (N : Nat) (M : jM) (o : Int) (a1 : Int) (k : Int → jM → Prop) : Prop := (w_X6_isBelow a1 6 (fun x1 => (if x1 = 0 then (k (-1000001) M) else (w_X6_explode N M o a1 0 (fun M2 => (lp_X6_repeated_25 o M2 (fun (x6 : Int) => (k x6 M2)) N 0 1 1))))))
set_option maxHeartbeats 4000000 in
set_option maxRecDepth 100000 in
theorem m_X6_repeated {l : Launch} {G : jG} {N : Nat} {M : jM} {o a1 : Int} {k : Int → jM → Prop} (o_M : jOK M) (k_o : jK o = 7) (r_a1 : jR a1) (h : w_X6_repeated N M o a1 k) : Met l yX6_repeated (wsG yX6_repeated cX6_repeated 6 (some .int)) (rmm 5 118) (jPc G M [.ref (jD G o), .int (jI a1)]) (qI G k) 0 0 (gA G) := by
  refine jm_start RX6 rfl (by decide) (Nat.le_of_ble_eq_true rfl) o_M ?_
  intro p e s m args below meth c ls C hr hlocks hl B
  have hl : lv_has ls 6 [(0, .ref (jD G o)), (1, .int (jI a1))] := hl
  unfold w_X6_repeated at h
  refine lv_iload_n C.1 C.2.1 dX6_repeated_0 rfl (lv_at hl 1 rfl) ?_
  refine jr_bipush C dX6_repeated_1 (by decide) ?_
  refine cl_X6_isBelow C hl.1 B q_233 ⟨Nat.le_of_ble_eq_true rfl, Nat.le_of_ble_eq_true rfl⟩ ⟨Nat.zero_le _, Nat.zero_le _⟩ (Nat.le_of_ble_eq_true rfl) r_a1 (jkc rfl) h dX6_repeated_3 (fun x1 z_x1 _ _ h B => ?_)
  refine jr_if_ne (tgt := 12) C (zR z_x1) h dX6_repeated_6 (by decide) (fun hc6 h => ?_) (fun hc6 h => ?_)
  · refine jr_ldc (n := -1000001) C q_236 (by decide) dX6_repeated_9 ?_
    exact jr_iret C B hr hlocks (jkc rfl) h dX6_repeated_11
  · refine lv_aload_n C.1 C.2.1 dX6_repeated_12 rfl (lv_at hl 0 rfl) ?_
    refine lv_iload_n C.1 C.2.1 dX6_repeated_13 rfl (lv_at hl 1 rfl) ?_
    refine jr_iconst C dX6_repeated_14 ?_
    refine cl_X6_explode C hl.1 B q_410 ⟨Nat.le_of_ble_eq_true rfl, Nat.le_of_ble_eq_true rfl⟩ ⟨Nat.zero_le _, Nat.zero_le _⟩ (Nat.le_of_ble_eq_true rfl) k_o r_a1 (Or.inl rfl) h dX6_repeated_15 (fun M2 _ _ h B => ?_)
    have o_M2 := B.2.2
    refine jr_iconst C dX6_repeated_18 ?_
    refine lv_istore_n (lv' := [(2, .int (jI 0)), (0, .ref (jD G o)), (1, .int (jI a1))]) C.1 C.2.1 dX6_repeated_19 rfl hl (by decide) rfl (fun ls hl => ?_)
    refine jr_iconst C dX6_repeated_20 ?_
    refine lv_istore_n (lv' := [(3, .int (jI 1)), (2, .int (jI 0)), (0, .ref (jD G o)), (1, .int (jI a1))]) C.1 C.2.1 dX6_repeated_21 rfl hl (by decide) rfl (fun ls hl => ?_)
    refine jr_iconst C dX6_repeated_22 ?_
    refine lv_istore (lv' := [(4, .int (jI 1)), (3, .int (jI 1)), (2, .int (jI 0)), (0, .ref (jD G o)), (1, .int (jI a1))]) C.1 C.2.1 dX6_repeated_23 hl (by decide) rfl (fun ls hl => ?_)
    obtain ⟨kx25, hkx25, h⟩ : ∃ kx25 : Int → Prop, (∀ (x6 : Int) (H : Heap) (locs : List Loc) (ls : Array Slot), kx25 x6 → jR x6 → Hp G M2 s.heap H locs → lv_has ls 6 [(2, .int (jI x6))] → W p l e (rmm 5 118) s m args below meth c H locs 0 0 (MQ below (qI G k) args s 0 0 (gA G)) (F0 m 96 ls [])) ∧ lp_X6_repeated_25 o M2 kx25 N 0 1 1 := by
      refine ⟨_, ?_, h⟩
      intro x6 H locs ls h r_x6 B hl
      refine lv_iload_n C.1 C.2.1 dX6_repeated_96 rfl (lv_at hl 0 rfl) ?_
      exact jr_iret C B hr hlocks r_x6 h dX6_repeated_97
    have hL25 : ∀ (n : Nat) (x3 : Int) (x4 : Int) (x5 : Int) (H : Heap) (locs : List Loc) (ls : Array Slot), lp_X6_repeated_25 o M2 kx25 n x3 x4 x5 → jR x3 → jR x4 → jR x5 → Hp G M2 s.heap H locs → lv_has ls 6 [(2, .int (jI x3)), (3, .int (jI x4)), (4, .int (jI x5)), (0, .ref (jD G o))] → W p l e (rmm 5 118) s m args below meth c H locs 0 0 (MQ below (qI G k) args s 0 0 (gA G)) (F0 m 25 ls []) := by
      intro n
      induction n with
      | zero => intro x3 x4 x5 H locs ls h; exact (show False from h).elim
      | succ n ih25 =>
        intro x3 x4 x5 H locs ls h r_x3 r_x4 r_x5 B hl
        rw [lp_X6_repeated_25] at h
        refine lv_iload C.1 C.2.1 dX6_repeated_25 (lv_at hl 2 rfl) ?_
        refine lv_aload_n C.1 C.2.1 dX6_repeated_27 rfl (lv_at hl 3 rfl) ?_
        refine gf_X6_53 C B k_o dX6_repeated_28 ?_
        refine gf_X6_261 C B (ko_X6_7 k_o) dX6_repeated_31 ?_
        refine jr_icmp_ge (tgt := 96) C r_x5 (o_M2 (o + 248) 3).1 h dX6_repeated_34 (by decide) (fun hc34 h => ?_) (fun hc34 h => ?_)
        · refine lv_aload_n C.1 C.2.1 dX6_repeated_37 rfl (lv_at hl 3 rfl) ?_
          refine gf_X6_53 C B k_o dX6_repeated_38 ?_
          refine gf_X6_262 C B (ko_X6_7 k_o) dX6_repeated_41 ?_
          refine lv_iload C.1 C.2.1 dX6_repeated_44 (lv_at hl 2 rfl) ?_
          obtain ⟨g7, h⟩ := h
          refine jr_iald C B 200 (jk1 (ko_X0_0 (ko_X6_7 k_o)) rfl) (jk2 (ko_X0_0 (ko_X6_7 k_o)) rfl) r_x5 g7 dX6_repeated_46 ?_
          refine lv_aload_n C.1 C.2.1 dX6_repeated_47 rfl (lv_at hl 3 rfl) ?_
          refine gf_X6_53 C B k_o dX6_repeated_48 ?_
          refine gf_X6_262 C B (ko_X6_7 k_o) dX6_repeated_51 ?_
          refine lv_iload C.1 C.2.1 dX6_repeated_54 (lv_at hl 2 rfl) ?_
          refine jr_iconst C dX6_repeated_56 ?_
          refine jr_isub C dX6_repeated_57 ?_
          obtain ⟨g8, h⟩ := h
          refine jr_iald C B 200 (jk1 (ko_X0_0 (ko_X6_7 k_o)) rfl) (jk2 (ko_X0_0 (ko_X6_7 k_o)) rfl) (jW_R _) g8 dX6_repeated_58 ?_
          obtain ⟨j59_10, hj59_10, h⟩ := jx_join (P := fun j59_10 : Int → Prop => ∀ (x9 : Int) (H : Heap) (locs : List Loc) (ls : Array Slot), j59_10 x9 → (x9 = 0 ∨ x9 = 1) → Hp G M2 s.heap H locs → lv_has ls 6 [(2, .int (jI x3)), (3, .int (jI x4)), (4, .int (jI x5)), (0, .ref (jD G o))] → W p l e (rmm 5 118) s m args below meth c H locs 0 0 (MQ below (qI G k) args s 0 0 (gA G)) (F0 m 67 ls [.int (jI x9)])) h (by
            intro x9 H locs ls h z_x9 B hl
            refine lv_istore (lv' := [(5, .int (jI x9)), (2, .int (jI x3)), (3, .int (jI x4)), (4, .int (jI x5)), (0, .ref (jD G o))]) C.1 C.2.1 dX6_repeated_67 hl (by decide) rfl (fun ls hl => ?_)
            refine lv_iload C.1 C.2.1 dX6_repeated_69 (lv_at hl 0 rfl) ?_
            refine jr_if_eq (tgt := 80) C (zR z_x9) h dX6_repeated_71 (by decide) (fun hc71 h => ?_) (fun hc71 h => ?_)
            · refine jr_iconst C dX6_repeated_80 ?_
              refine lv_istore_n (lv' := [(3, .int (jI 1)), (5, .int (jI x9)), (2, .int (jI x3)), (4, .int (jI x5)), (0, .ref (jD G o))]) C.1 C.2.1 dX6_repeated_81 rfl hl (by decide) rfl (fun ls hl => ?_)
              refine lv_iload_n C.1 C.2.1 dX6_repeated_82 rfl (lv_at hl 0 rfl) ?_
              refine jr_iconst C dX6_repeated_83 ?_
              refine jr_icmp_ne (tgt := 90) C (jkc rfl) (jkc rfl) h dX6_repeated_84 (by decide) (fun hc84 h => ?_) (fun hc84 h => ?_)
              · refine jr_iinc (k := 2) (lv' := fun x11 => [(2, .int (jI x11)), (3, .int (jI 1)), (5, .int (jI x9)), (4, .int (jI x5)), (0, .ref (jD G o))]) C h hl rfl (by decide) (fun _ => rfl) dX6_repeated_87 (fun x11 h r_x11 ls hl => ?_)
                refine jr_iinc (k := 3) (lv' := fun x12 => [(4, .int (jI x12)), (2, .int (jI x11)), (3, .int (jI 1)), (5, .int (jI x9)), (0, .ref (jD G o))]) C h hl rfl (by decide) (fun _ => rfl) dX6_repeated_90 (fun x12 h r_x12 ls hl => ?_)
                refine lv_goto (tgt := 25) C.1 C.2.1 dX6_repeated_93 (by decide) ?_
                exact ih25 _ _ _ _ _ _ h r_x11 (jkc rfl) r_x12 B (lv_sub hl [1, 2, 0, 4] rfl)
              · refine jr_iinc (k := 3) (lv' := fun x13 => [(4, .int (jI x13)), (3, .int (jI 1)), (5, .int (jI x9)), (2, .int (jI x3)), (0, .ref (jD G o))]) C h hl rfl (by decide) (fun _ => rfl) dX6_repeated_90 (fun x13 h r_x13 ls hl => ?_)
                refine lv_goto (tgt := 25) C.1 C.2.1 dX6_repeated_93 (by decide) ?_
                exact ih25 _ _ _ _ _ _ h r_x3 (jkc rfl) r_x13 B (lv_sub hl [3, 1, 0, 4] rfl)
            · refine lv_iload_n C.1 C.2.1 dX6_repeated_74 rfl (lv_at hl 2 rfl) ?_
              refine jr_iconst C dX6_repeated_75 ?_
              refine jr_iadd C dX6_repeated_76 ?_
              refine lv_goto (tgt := 81) C.1 C.2.1 dX6_repeated_77 (by decide) ?_
              refine jr_nm h (jW_R _) (fun x14 h r_x14 => ?_)
              refine lv_istore_n (lv' := [(3, .int (jI x14)), (5, .int (jI x9)), (2, .int (jI x3)), (4, .int (jI x5)), (0, .ref (jD G o))]) C.1 C.2.1 dX6_repeated_81 rfl hl (by decide) rfl (fun ls hl => ?_)
              refine lv_iload_n C.1 C.2.1 dX6_repeated_82 rfl (lv_at hl 0 rfl) ?_
              refine jr_iconst C dX6_repeated_83 ?_
              refine jr_icmp_ne (tgt := 90) C r_x14 (jkc rfl) h dX6_repeated_84 (by decide) (fun hc84 h => ?_) (fun hc84 h => ?_)
              · refine jr_iinc (k := 2) (lv' := fun x15 => [(2, .int (jI x15)), (3, .int (jI x14)), (5, .int (jI x9)), (4, .int (jI x5)), (0, .ref (jD G o))]) C h hl rfl (by decide) (fun _ => rfl) dX6_repeated_87 (fun x15 h r_x15 ls hl => ?_)
                refine jr_iinc (k := 3) (lv' := fun x16 => [(4, .int (jI x16)), (2, .int (jI x15)), (3, .int (jI x14)), (5, .int (jI x9)), (0, .ref (jD G o))]) C h hl rfl (by decide) (fun _ => rfl) dX6_repeated_90 (fun x16 h r_x16 ls hl => ?_)
                refine lv_goto (tgt := 25) C.1 C.2.1 dX6_repeated_93 (by decide) ?_
                exact ih25 _ _ _ _ _ _ h r_x15 r_x14 r_x16 B (lv_sub hl [1, 2, 0, 4] rfl)
              · refine jr_iinc (k := 3) (lv' := fun x17 => [(4, .int (jI x17)), (3, .int (jI x14)), (5, .int (jI x9)), (2, .int (jI x3)), (0, .ref (jD G o))]) C h hl rfl (by decide) (fun _ => rfl) dX6_repeated_90 (fun x17 h r_x17 ls hl => ?_)
                refine lv_goto (tgt := 25) C.1 C.2.1 dX6_repeated_93 (by decide) ?_
                exact ih25 _ _ _ _ _ _ h r_x3 r_x14 r_x17 B (lv_sub hl [3, 1, 0, 4] rfl))
          refine jr_icmp_ne (tgt := 66) C (o_M2 ((o + 248) + 1) x5).1 (o_M2 ((o + 248) + 1) (jW (x5 - 1))).1 h dX6_repeated_59 (by decide) (fun hc59 h => ?_) (fun hc59 h => ?_)
          · refine jr_iconst C dX6_repeated_62 ?_
            refine lv_goto (tgt := 67) C.1 C.2.1 dX6_repeated_63 (by decide) ?_
            exact hj59_10 _ _ _ _ h (Or.inr rfl) B (lv_sub hl [0, 1, 2, 3] rfl)
          · refine jr_iconst C dX6_repeated_66 ?_
            exact hj59_10 _ _ _ _ h (Or.inl rfl) B (lv_sub hl [0, 1, 2, 3] rfl)
        · exact hkx25 _ _ _ _ h r_x3 B (lv_sub hl [0] rfl)
    exact hL25 N _ _ _ _ _ _ h (jkc rfl) (jkc rfl) (jkc rfl) B (lv_sub hl [2, 1, 0, 3] rfl)
theorem cl_X6_repeated {p : Program} {l : Launch} {e : Env} {R : Room} {s : State} {m : MethodId} {args : Array Value} {below : List Frame} {meth : Method} {c : Code} {H : Heap} {locs : List Loc} {cells slots : Nat} {Q : State → Prop} {cc : ByteArray} {nL : Nat} {own : String} {G : jG} {H0 : Heap} {pc idx : Nat} {ls : Array Slot} {rest : List Value} {N : Nat} {M : jM} {o a1 : Int} {k : Int → jM → Prop} (C : Cx G p s args m c cc nL own) (hl : ls.size = nL) (B : Hp G M H0 H locs) (q1 : Cond.methodLink own idx yX6_repeated ∈ tb) (hR : (rmm 5 118).frames + 1 ≤ R.frames ∧ 8 + (6 + 11) + (rmm 5 118).locals ≤ R.locals) (hcs : cells ≤ R.cells ∧ slots ≤ R.slots) (hW : (rest.map fun v => v.category).sum ≤ 8) (k_o : jK o = 7) (r_a1 : jR a1) (h : w_X6_repeated N M o a1 k) (hdg : decode cc pc = .ok (.invokevirtual idx, 3)) (kk : ∀ (r : Int) (M' : jM), jR r → ∀ (H1 : Heap) (locs1 : List Loc), k r M' → Hp G M' H0 H1 locs1 → W p l e R s m args below meth c H1 locs1 cells slots Q (F0 m (pc + 3) ls (.int (jI r) :: rest))) : W p l e R s m args below meth c H locs cells slots Q (F0 m pc ls (.int (jI a1) :: .ref (jD G o) :: rest)) :=
  jr_callI B (jr_runV (o := o) (As := [.int (jI a1)]) (n := 1) C hl B (m_X6_repeated B.2.2 k_o r_a1 h) (jE7 k_o) (by omega) rfl q1 q_431 q_432 q_433 q_1 ⟨by decide, by decide, by decide +kernel⟩ rfl ⟨rfl, rfl⟩ hR hcs rfl hW hdg) (fun r M' H1 locs1 hr hk B1 => kk r M' hr H1 locs1 hk B1)
