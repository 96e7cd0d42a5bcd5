def lp_X7_lockedBy_4 (o : Int) (a1 : Int) (M : jM) (kx4 : Int → Prop) : Nat → Int → Int → Prop
  | 0, _, _ => False
  | n + 1, x1, x2 => (jB 0 1115 ∧ (if x2 < (M (o + 1) 0) then (w_X7_of M o x2 1 (fun x5 => (if x5 = (jW (a1 + 1)) then (jL (jW (x1 + 1)) (fun x6 => (jL (jW (x2 + 1)) (fun x7 => (lp_X7_lockedBy_4 o a1 M kx4 n x6 x7))))) else (jL (jW (x1 + 0)) (fun x8 => (jL (jW (x2 + 1)) (fun x9 => (lp_X7_lockedBy_4 o a1 M kx4 n x8 x9)))))))) else (kx4 x1)))
def w_X7_lockedBy (N : Nat) (M : jM) (o : Int) (a1 : Int) (k : Int → Prop) : Prop := (lp_X7_lockedBy_4 o a1 M (fun (x3 : Int) => (k x3)) N 0 0)
set_option maxHeartbeats 4000000 in
set_option maxRecDepth 100000 in
theorem m_X7_lockedBy {l : Launch} {G : jG} {N : Nat} {M : jM} {o a1 : Int} {k : Int → Prop} (o_M : jOK M) (k_o : jK o = 8) (r_a1 : jR a1) (h : w_X7_lockedBy N M o a1 k) : Met l yX7_lockedBy (wsG yX7_lockedBy cX7_lockedBy 4 (some .int)) (rmm 1 22) (jPc G M [.ref (jD G o), .int (jI a1)]) (qI G (fun r M' => M' = M ∧ k r)) 0 0 (gA G) := by
  refine jm_start RX7 rfl (by decide) (Nat.le_of_ble_eq_true rfl) o_M ?_
  intro p e s m args below meth c ls C hr hlocks hl B
  have hl : lv_has ls 4 [(0, .ref (jD G o)), (1, .int (jI a1))] := hl
  unfold w_X7_lockedBy at h
  refine jr_iconst C dX7_lockedBy_0 ?_
  refine lv_istore_n (lv' := [(2, .int (jI 0)), (0, .ref (jD G o)), (1, .int (jI a1))]) C.1 C.2.1 dX7_lockedBy_1 rfl hl (by decide) rfl (fun ls hl => ?_)
  refine jr_iconst C dX7_lockedBy_2 ?_
  refine lv_istore_n (lv' := [(3, .int (jI 0)), (2, .int (jI 0)), (0, .ref (jD G o)), (1, .int (jI a1))]) C.1 C.2.1 dX7_lockedBy_3 rfl hl (by decide) rfl (fun ls hl => ?_)
  obtain ⟨kx4, hkx4, h⟩ : ∃ kx4 : Int → Prop, (∀ (x3 : Int) (H : Heap) (locs : List Loc) (ls : Array Slot), kx4 x3 → jR x3 → Hp G M s.heap H locs → lv_has ls 4 [(2, .int (jI x3))] → W p l e (rmm 1 22) s m args below meth c H locs 0 0 (MQ below (qI G (fun r M' => M' = M ∧ k r)) args s 0 0 (gA G)) (F0 m 40 ls [])) ∧ lp_X7_lockedBy_4 o a1 M kx4 N 0 0 := by
    refine ⟨_, ?_, h⟩
    intro x3 H locs ls h r_x3 B hl
    refine lv_iload_n C.1 C.2.1 dX7_lockedBy_40 rfl (lv_at hl 0 rfl) ?_
    exact jr_iret C B hr hlocks r_x3 ⟨rfl, h⟩ dX7_lockedBy_41
  have hL4 : ∀ (n : Nat) (x1 : Int) (x2 : Int) (H : Heap) (locs : List Loc) (ls : Array Slot), lp_X7_lockedBy_4 o a1 M kx4 n x1 x2 → jR x1 → jR x2 → Hp G M s.heap H locs → lv_has ls 4 [(2, .int (jI x1)), (3, .int (jI x2)), (0, .ref (jD G o)), (1, .int (jI a1))] → W p l e (rmm 1 22) s m args below meth c H locs 0 0 (MQ below (qI G (fun r M' => M' = M ∧ k r)) args s 0 0 (gA G)) (F0 m 4 ls []) := by
    intro n
    induction n with
    | zero => intro x1 x2 H locs ls h; exact (show False from h).elim
    | succ n ih4 =>
      intro x1 x2 H locs ls h r_x1 r_x2 B hl
      rw [lp_X7_lockedBy_4] at h
      refine lv_iload_n C.1 C.2.1 dX7_lockedBy_4 rfl (lv_at hl 1 rfl) ?_
      refine lv_aload_n C.1 C.2.1 dX7_lockedBy_5 rfl (lv_at hl 2 rfl) ?_
      refine gf_X7_7 C B k_o dX7_lockedBy_6 ?_
      refine jr_iconst C dX7_lockedBy_9 ?_
      obtain ⟨g4, h⟩ := h
      refine jr_iald C B 1115 (jk1 (ko_X7_0 k_o) rfl) (jk2 (ko_X7_0 k_o) rfl) (jkc rfl) g4 dX7_lockedBy_10 ?_
      refine jr_icmp_ge (tgt := 40) C r_x2 (o_M (o + 1) 0).1 h dX7_lockedBy_11 (by decide) (fun hc11 h => ?_) (fun hc11 h => ?_)
      · refine lv_iload_n C.1 C.2.1 dX7_lockedBy_14 rfl (lv_at hl 0 rfl) ?_
        refine lv_aload_n C.1 C.2.1 dX7_lockedBy_15 rfl (lv_at hl 2 rfl) ?_
        refine lv_iload_n C.1 C.2.1 dX7_lockedBy_16 rfl (lv_at hl 1 rfl) ?_
        refine jr_iconst C dX7_lockedBy_17 ?_
        refine cl_X7_of C hl.1 B q_754 ⟨Nat.le_of_ble_eq_true rfl, Nat.le_of_ble_eq_true rfl⟩ ⟨Nat.zero_le _, Nat.zero_le _⟩ (Nat.le_of_ble_eq_true rfl) k_o r_x2 (jkc rfl) h dX7_lockedBy_18 (fun x5 r_x5 _ _ h B => ?_)
        refine lv_iload_n C.1 C.2.1 dX7_lockedBy_21 rfl (lv_at hl 3 rfl) ?_
        refine jr_iconst C dX7_lockedBy_22 ?_
        refine jr_iadd C dX7_lockedBy_23 ?_
        refine jr_icmp_ne (tgt := 31) C r_x5 (jW_R _) h dX7_lockedBy_24 (by decide) (fun hc24 h => ?_) (fun hc24 h => ?_)
        · refine jr_iconst C dX7_lockedBy_27 ?_
          refine lv_goto (tgt := 32) C.1 C.2.1 dX7_lockedBy_28 (by decide) ?_
          refine jr_iadd C dX7_lockedBy_32 ?_
          refine jr_nm h (jW_R _) (fun x6 h r_x6 => ?_)
          refine lv_istore_n (lv' := [(2, .int (jI x6)), (3, .int (jI x2)), (0, .ref (jD G o)), (1, .int (jI a1))]) C.1 C.2.1 dX7_lockedBy_33 rfl hl (by decide) rfl (fun ls hl => ?_)
          refine jr_iinc (k := 1) (lv' := fun x7 => [(3, .int (jI x7)), (2, .int (jI x6)), (0, .ref (jD G o)), (1, .int (jI a1))]) C h hl rfl (by decide) (fun _ => rfl) dX7_lockedBy_34 (fun x7 h r_x7 ls hl => ?_)
          refine lv_goto (tgt := 4) C.1 C.2.1 dX7_lockedBy_37 (by decide) ?_
          exact ih4 _ _ _ _ _ h r_x6 r_x7 B (lv_sub hl [1, 0, 2, 3] rfl)
        · refine jr_iconst C dX7_lockedBy_31 ?_
          refine jr_iadd C dX7_lockedBy_32 ?_
          refine jr_nm h (jW_R _) (fun x8 h r_x8 => ?_)
          refine lv_istore_n (lv' := [(2, .int (jI x8)), (3, .int (jI x2)), (0, .ref (jD G o)), (1, .int (jI a1))]) C.1 C.2.1 dX7_lockedBy_33 rfl hl (by decide) rfl (fun ls hl => ?_)
          refine jr_iinc (k := 1) (lv' := fun x9 => [(3, .int (jI x9)), (2, .int (jI x8)), (0, .ref (jD G o)), (1, .int (jI a1))]) C h hl rfl (by decide) (fun _ => rfl) dX7_lockedBy_34 (fun x9 h r_x9 ls hl => ?_)
          refine lv_goto (tgt := 4) C.1 C.2.1 dX7_lockedBy_37 (by decide) ?_
          exact ih4 _ _ _ _ _ h r_x8 r_x9 B (lv_sub hl [1, 0, 2, 3] rfl)
      · exact hkx4 _ _ _ _ h r_x1 B (lv_sub hl [0] rfl)
  exact hL4 N _ _ _ _ _ h (jkc rfl) (jkc rfl) B (lv_sub hl [1, 0, 2, 3] rfl)
theorem cl_X7_lockedBy {p : Program} {l : Launch} {e : Env} {R : Room} {s : State} {m : MethodId} {args : Array Value} {below : List Frame} {meth : Method} {c : Code} {H : Heap} {locs : List Loc} {cells slots : Nat} {Q : State → Prop} {cc : ByteArray} {nL : Nat} {own : String} {G : jG} {H0 : Heap} {pc idx : Nat} {ls : Array Slot} {rest : List Value} {N : Nat} {M : jM} {o a1 : Int} {k : Int → Prop} (C : Cx G p s args m c cc nL own) (hl : ls.size = nL) (B : Hp G M H0 H locs) (q1 : Cond.methodLink own idx yX7_lockedBy ∈ tb) (hR : (rmm 1 22).frames + 1 ≤ R.frames ∧ 8 + (4 + 11) + (rmm 1 22).locals ≤ R.locals) (hcs : cells ≤ R.cells ∧ slots ≤ R.slots) (hW : (rest.map fun v => v.category).sum ≤ 8) (k_o : jK o = 8) (r_a1 : jR a1) (h : w_X7_lockedBy N M o a1 k) (hdg : decode cc pc = .ok (.invokevirtual idx, 3)) (kk : ∀ (r : Int), jR r → ∀ (H1 : Heap) (locs1 : List Loc), k r → Hp G M H0 H1 locs1 → W p l e R s m args below meth c H1 locs1 cells slots Q (F0 m (pc + 3) ls (.int (jI r) :: rest))) : W p l e R s m args below meth c H locs cells slots Q (F0 m pc ls (.int (jI a1) :: .ref (jD G o) :: rest)) :=
  jr_callI B (jr_runV (o := o) (As := [.int (jI a1)]) (n := 1) C hl B (m_X7_lockedBy B.2.2 k_o r_a1 h) (jE8 k_o) (by omega) rfl q1 q_798 qs_33 q_799 q_8 ⟨by decide, by decide, by decide +kernel⟩ rfl ⟨rfl, rfl⟩ hR hcs rfl hW hdg) (fun r M' H1 locs1 hr hk B1 => by obtain ⟨rfl, hk⟩ := hk; exact kk r hr H1 locs1 hk B1)
def lp_X7_goCreate_40 (o : Int) (kx40 : jM → Prop) : Nat → Int → jM → Prop
  | 0, _, _ => False
  | n + 1, x4, M5 => (if x4 < 106 then (jB 0 1115 ∧ (w_X7_lays M5 o (M5 (o + 1) 0) x4 0 (fun M13 => (jL (jW (x4 + 1)) (fun x14 => (lp_X7_goCreate_40 o kx40 n x14 M13)))))) else (kx40 M5))
def w_X7_goCreate (N : Nat) (M : jM) (o : Int) (a1 : Int) (k : Int → jM → Prop) : Prop := (w_X7_in a1 0 99 (fun x1 => (if x1 = 0 then (k (-1000002) M) else (w_X7_placeOf N M o a1 (fun x2 => (if x2 < 0 then (jB 0 1115 ∧ (if (M (o + 1) 0) = 10 then (k (-1000004) M) else (lp_X7_goCreate_40 o (fun (M6 : jM) => (jB 0 1115 ∧ (w_X7_lays M6 o (M6 (o + 1) 0) 0 a1 (fun M8 => (jB 0 1115 ∧ (jB 0 1115 ∧ jL (jU M8 (o + 1) 0 (jW ((M8 (o + 1) 0) + 1))) (fun M10 => (jB 0 1115 ∧ (k (M10 (o + 1) 0) M10))))))))) N 0 M))) else (k (-1000005) M)))))))
set_option maxHeartbeats 4000000 in
set_option maxRecDepth 100000 in
theorem m_X7_goCreate {l : Launch} {G : jG} {N : Nat} {M : jM} {o a1 : Int} {k : Int → jM → Prop} (o_M : jOK M) (k_o : jK o = 8) (r_a1 : jR a1) (h : w_X7_goCreate N M o a1 k) : Met l yX7_goCreate (wsG yX7_goCreate cX7_goCreate 3 (some .int)) (rmm 2 45) (jPc G M [.ref (jD G o), .int (jI a1)]) (qI G k) 0 0 (gA G) := by
  refine jm_start RX7 rfl (by decide) (Nat.le_of_ble_eq_true rfl) o_M ?_
  intro p e s m args below meth c ls C hr hlocks hl B
  have hl : lv_has ls 3 [(0, .ref (jD G o)), (1, .int (jI a1))] := hl
  unfold w_X7_goCreate at h
  refine lv_iload_n C.1 C.2.1 dX7_goCreate_0 rfl (lv_at hl 1 rfl) ?_
  refine jr_iconst C dX7_goCreate_1 ?_
  refine jr_bipush C dX7_goCreate_2 (by decide) ?_
  refine cl_X7_in C hl.1 B q_745 ⟨Nat.le_of_ble_eq_true rfl, Nat.le_of_ble_eq_true rfl⟩ ⟨Nat.zero_le _, Nat.zero_le _⟩ (Nat.le_of_ble_eq_true rfl) r_a1 (jkc rfl) (jkc rfl) h dX7_goCreate_4 (fun x1 z_x1 _ _ h B => ?_)
  refine jr_if_ne (tgt := 13) C (zR z_x1) h dX7_goCreate_7 (by decide) (fun hc7 h => ?_) (fun hc7 h => ?_)
  · refine jr_ldc (n := -1000002) C q_748 (by decide) dX7_goCreate_10 ?_
    exact jr_iret C B hr hlocks (jkc rfl) h dX7_goCreate_12
  · refine lv_aload_n C.1 C.2.1 dX7_goCreate_13 rfl (lv_at hl 0 rfl) ?_
    refine lv_iload_n C.1 C.2.1 dX7_goCreate_14 rfl (lv_at hl 1 rfl) ?_
    refine cl_X7_placeOf C hl.1 B q_749 ⟨Nat.le_of_ble_eq_true rfl, Nat.le_of_ble_eq_true rfl⟩ ⟨Nat.zero_le _, Nat.zero_le _⟩ (Nat.le_of_ble_eq_true rfl) k_o r_a1 h dX7_goCreate_15 (fun x2 r_x2 _ _ h B => ?_)
    refine jr_if_lt (tgt := 24) C r_x2 h dX7_goCreate_18 (by decide) (fun hc18 h => ?_) (fun hc18 h => ?_)
    · refine lv_aload_n C.1 C.2.1 dX7_goCreate_24 rfl (lv_at hl 0 rfl) ?_
      refine gf_X7_7 C B k_o dX7_goCreate_25 ?_
      refine jr_iconst C dX7_goCreate_28 ?_
      obtain ⟨g3, h⟩ := h
      refine jr_iald C B 1115 (jk1 (ko_X7_0 k_o) rfl) (jk2 (ko_X7_0 k_o) rfl) (jkc rfl) g3 dX7_goCreate_29 ?_
      refine jr_bipush C dX7_goCreate_30 (by decide) ?_
      refine jr_icmp_ne (tgt := 38) C (o_M (o + 1) 0).1 (jkc rfl) h dX7_goCreate_32 (by decide) (fun hc32 h => ?_) (fun hc32 h => ?_)
      · refine jr_ldc (n := -1000004) C q_759 (by decide) dX7_goCreate_35 ?_
        exact jr_iret C B hr hlocks (jkc rfl) h dX7_goCreate_37
      · refine jr_iconst C dX7_goCreate_38 ?_
        refine lv_istore_n (lv' := [(2, .int (jI 0)), (0, .ref (jD G o)), (1, .int (jI a1))]) C.1 C.2.1 dX7_goCreate_39 rfl hl (by decide) rfl (fun ls hl => ?_)
        obtain ⟨kx40, hkx40, h⟩ : ∃ kx40 : jM → Prop, (∀ (M6 : jM) (H : Heap) (locs : List Loc) (ls : Array Slot), kx40 M6 → Hp G M6 s.heap H locs → lv_has ls 3 [(0, .ref (jD G o)), (1, .int (jI a1))] → W p l e (rmm 2 45) s m args below meth c H locs 0 0 (MQ below (qI G k) args s 0 0 (gA G)) (F0 m 64 ls [])) ∧ lp_X7_goCreate_40 o kx40 N 0 M := by
          refine ⟨_, ?_, h⟩
          intro M6 H locs ls h  B hl
          have o_M6 := B.2.2
          refine lv_aload_n C.1 C.2.1 dX7_goCreate_64 rfl (lv_at hl 0 rfl) ?_
          refine lv_aload_n C.1 C.2.1 dX7_goCreate_65 rfl (lv_at hl 0 rfl) ?_
          refine gf_X7_7 C B k_o dX7_goCreate_66 ?_
          refine jr_iconst C dX7_goCreate_69 ?_
          obtain ⟨g7, h⟩ := h
          refine jr_iald C B 1115 (jk1 (ko_X7_0 k_o) rfl) (jk2 (ko_X7_0 k_o) rfl) (jkc rfl) g7 dX7_goCreate_70 ?_
          refine jr_iconst C dX7_goCreate_71 ?_
          refine lv_iload_n C.1 C.2.1 dX7_goCreate_72 rfl (lv_at hl 1 rfl) ?_
          refine cl_X7_lays C hl.1 B q_760 ⟨Nat.le_of_ble_eq_true rfl, Nat.le_of_ble_eq_true rfl⟩ ⟨Nat.zero_le _, Nat.zero_le _⟩ (Nat.le_of_ble_eq_true rfl) k_o (o_M6 (o + 1) 0).1 (jkc rfl) r_a1 h dX7_goCreate_73 (fun M8 _ _ h B => ?_)
          have o_M8 := B.2.2
          refine lv_aload_n C.1 C.2.1 dX7_goCreate_76 rfl (lv_at hl 0 rfl) ?_
          refine gf_X7_7 C B k_o dX7_goCreate_77 ?_
          refine jr_iconst C dX7_goCreate_80 ?_
          refine jr_dup2 C rfl rfl dX7_goCreate_81 ?_
          obtain ⟨g9, h⟩ := h
          refine jr_iald C B 1115 (jk1 (ko_X7_0 k_o) rfl) (jk2 (ko_X7_0 k_o) rfl) (jkc rfl) g9 dX7_goCreate_82 ?_
          refine jr_iconst C dX7_goCreate_83 ?_
          refine jr_iadd C dX7_goCreate_84 ?_
          refine jr_iast C B 1115 (jk1 (ko_X7_0 k_o) rfl) (jk2 (ko_X7_0 k_o) rfl) (jkc rfl) (jW_R _) h dX7_goCreate_85 (fun M10 _ _ h B => ?_)
          have o_M10 := B.2.2
          refine lv_aload_n C.1 C.2.1 dX7_goCreate_86 rfl (lv_at hl 0 rfl) ?_
          refine gf_X7_7 C B k_o dX7_goCreate_87 ?_
          refine jr_iconst C dX7_goCreate_90 ?_
          obtain ⟨g11, h⟩ := h
          refine jr_iald C B 1115 (jk1 (ko_X7_0 k_o) rfl) (jk2 (ko_X7_0 k_o) rfl) (jkc rfl) g11 dX7_goCreate_91 ?_
          exact jr_iret C B hr hlocks (o_M10 (o + 1) 0).1 h dX7_goCreate_92
        have hL40 : ∀ (n : Nat) (x4 : Int) (M5 : jM) (H : Heap) (locs : List Loc) (ls : Array Slot), lp_X7_goCreate_40 o kx40 n x4 M5 → jR x4 → Hp G M5 s.heap H locs → lv_has ls 3 [(2, .int (jI x4)), (0, .ref (jD G o)), (1, .int (jI a1))] → W p l e (rmm 2 45) s m args below meth c H locs 0 0 (MQ below (qI G k) args s 0 0 (gA G)) (F0 m 40 ls []) := by
          intro n
          induction n with
          | zero => intro x4 M5 H locs ls h; exact (show False from h).elim
          | succ n ih40 =>
            intro x4 M5 H locs ls h r_x4 B hl
            have o_M5 := B.2.2
            rw [lp_X7_goCreate_40] at h
            refine lv_iload_n C.1 C.2.1 dX7_goCreate_40 rfl (lv_at hl 0 rfl) ?_
            refine jr_bipush C dX7_goCreate_41 (by decide) ?_
            refine jr_icmp_ge (tgt := 64) C r_x4 (jkc rfl) h dX7_goCreate_43 (by decide) (fun hc43 h => ?_) (fun hc43 h => ?_)
            · refine lv_aload_n C.1 C.2.1 dX7_goCreate_46 rfl (lv_at hl 1 rfl) ?_
              refine lv_aload_n C.1 C.2.1 dX7_goCreate_47 rfl (lv_at hl 1 rfl) ?_
              refine gf_X7_7 C B k_o dX7_goCreate_48 ?_
              refine jr_iconst C dX7_goCreate_51 ?_
              obtain ⟨g12, h⟩ := h
              refine jr_iald C B 1115 (jk1 (ko_X7_0 k_o) rfl) (jk2 (ko_X7_0 k_o) rfl) (jkc rfl) g12 dX7_goCreate_52 ?_
              refine lv_iload_n C.1 C.2.1 dX7_goCreate_53 rfl (lv_at hl 0 rfl) ?_
              refine jr_iconst C dX7_goCreate_54 ?_
              refine cl_X7_lays C hl.1 B q_760 ⟨Nat.le_of_ble_eq_true rfl, Nat.le_of_ble_eq_true rfl⟩ ⟨Nat.zero_le _, Nat.zero_le _⟩ (Nat.le_of_ble_eq_true rfl) k_o (o_M5 (o + 1) 0).1 r_x4 (jkc rfl) h dX7_goCreate_55 (fun M13 _ _ h B => ?_)
              have o_M13 := B.2.2
              refine jr_iinc (k := 0) (lv' := fun x14 => [(2, .int (jI x14)), (0, .ref (jD G o)), (1, .int (jI a1))]) C h hl rfl (by decide) (fun _ => rfl) dX7_goCreate_58 (fun x14 h r_x14 ls hl => ?_)
              refine lv_goto (tgt := 40) C.1 C.2.1 dX7_goCreate_61 (by decide) ?_
              exact ih40 _ _ _ _ _ h r_x14 B (lv_sub hl [0, 1, 2] rfl)
            · exact hkx40 _ _ _ _ h  B (lv_sub hl [1, 2] rfl)
        exact hL40 N _ _ _ _ _ h (jkc rfl) B (lv_sub hl [0, 1, 2] rfl)
    · refine jr_ldc (n := -1000005) C q_758 (by decide) dX7_goCreate_21 ?_
      exact jr_iret C B hr hlocks (jkc rfl) h dX7_goCreate_23
theorem cl_X7_goCreate {p : Program} {l : Launch} {e : Env} {R : Room} {s : State} {m : MethodId} {args : Array Value} {below : List Frame} {meth : Method} {c : Code} {H : Heap} {locs : List Loc} {cells slots : Nat} {Q : State → Prop} {cc : ByteArray} {nL : Nat} {own : String} {G : jG} {H0 : Heap} {pc idx : Nat} {ls : Array Slot} {rest : List Value} {N : Nat} {M : jM} {o a1 : Int} {k : Int → jM → Prop} (C : Cx G p s args m c cc nL own) (hl : ls.size = nL) (B : Hp G M H0 H locs) (q1 : Cond.methodLink own idx yX7_goCreate ∈ tb) (hR : (rmm 2 45).frames + 1 ≤ R.frames ∧ 8 + (3 + 11) + (rmm 2 45).locals ≤ R.locals) (hcs : cells ≤ R.cells ∧ slots ≤ R.slots) (hW : (rest.map fun v => v.category).sum ≤ 8) (k_o : jK o = 8) (r_a1 : jR a1) (h : w_X7_goCreate N M o a1 k) (hdg : decode cc pc = .ok (.invokevirtual idx, 3)) (kk : ∀ (r : Int) (M' : jM), jR r → ∀ (H1 : Heap) (locs1 : List Loc), k r M' → Hp G M' H0 H1 locs1 → W p l e R s m args below meth c H1 locs1 cells slots Q (F0 m (pc + 3) ls (.int (jI r) :: rest))) : W p l e R s m args below meth c H locs cells slots Q (F0 m pc ls (.int (jI a1) :: .ref (jD G o) :: rest)) :=
  jr_callI B (jr_runV (o := o) (As := [.int (jI a1)]) (n := 1) C hl B (m_X7_goCreate B.2.2 k_o r_a1 h) (jE8 k_o) (by omega) rfl q1 q_743 qs_24 q_744 q_8 ⟨by decide, by decide, by decide +kernel⟩ rfl ⟨rfl, rfl⟩ hR hcs rfl hW hdg) (fun r M' H1 locs1 hr hk B1 => kk r M' hr H1 locs1 hk B1)
def w_X7_errorOf (N : Nat) (M : jM) (o : Int) (a1 : Int) (a2 : Int) (k : Int → Prop) : Prop := (w_X7_isUser a1 (fun x1 => (if x1 = 0 then (k (-1000001)) else (w_X7_placeOf N M o a2 (fun x2 => (if x2 < 0 then (k (-1000001)) else (k 0)))))))
set_option maxHeartbeats 4000000 in
set_option maxRecDepth 100000 in
theorem m_X7_errorOf {l : Launch} {G : jG} {N : Nat} {M : jM} {o a1 a2 : Int} {k : Int → Prop} (o_M : jOK M) (k_o : jK o = 8) (r_a1 : jR a1) (r_a2 : jR a2) (h : w_X7_errorOf N M o a1 a2 k) : Met l yX7_errorOf (wsG yX7_errorOf cX7_errorOf 3 (some .int)) (rmm 2 45) (jPc G M [.ref (jD G o), .int (jI a1), .int (jI a2)]) (qI G (fun r M' => M' = M ∧ k r)) 0 0 (gA G) := by
  refine jm_start RX7 rfl (by decide) (Nat.le_of_ble_eq_true rfl) o_M ?_
  intro p e s m args below meth c ls C hr hlocks hl B
  have hl : lv_has ls 3 [(0, .ref (jD G o)), (1, .int (jI a1)), (2, .int (jI a2))] := hl
  unfold w_X7_errorOf at h
  refine lv_iload_n C.1 C.2.1 dX7_errorOf_0 rfl (lv_at hl 1 rfl) ?_
  refine cl_X7_isUser C hl.1 B q_780 ⟨Nat.le_of_ble_eq_true rfl, Nat.le_of_ble_eq_true rfl⟩ ⟨Nat.zero_le _, Nat.zero_le _⟩ (Nat.le_of_ble_eq_true rfl) r_a1 h dX7_errorOf_1 (fun x1 z_x1 _ _ h B => ?_)
  refine jr_if_eq (tgt := 15) C (zR z_x1) h dX7_errorOf_4 (by decide) (fun hc4 h => ?_) (fun hc4 h => ?_)
  · refine jr_ldc (n := -1000001) C q_753 (by decide) dX7_errorOf_15 ?_
    refine lv_goto (tgt := 21) C.1 C.2.1 dX7_errorOf_17 (by decide) ?_
    exact jr_iret C B hr hlocks (jkc rfl) ⟨rfl, h⟩ dX7_errorOf_21
  · refine lv_aload_n C.1 C.2.1 dX7_errorOf_7 rfl (lv_at hl 0 rfl) ?_
    refine lv_iload_n C.1 C.2.1 dX7_errorOf_8 rfl (lv_at hl 2 rfl) ?_
    refine cl_X7_placeOf C hl.1 B q_749 ⟨Nat.le_of_ble_eq_true rfl, Nat.le_of_ble_eq_true rfl⟩ ⟨Nat.zero_le _, Nat.zero_le _⟩ (Nat.le_of_ble_eq_true rfl) k_o r_a2 h dX7_errorOf_9 (fun x2 r_x2 _ _ h B => ?_)
    refine jr_if_ge (tgt := 20) C r_x2 h dX7_errorOf_12 (by decide) (fun hc12 h => ?_) (fun hc12 h => ?_)
    · refine jr_ldc (n := -1000001) C q_753 (by decide) dX7_errorOf_15 ?_
      refine lv_goto (tgt := 21) C.1 C.2.1 dX7_errorOf_17 (by decide) ?_
      exact jr_iret C B hr hlocks (jkc rfl) ⟨rfl, h⟩ dX7_errorOf_21
    · refine jr_iconst C dX7_errorOf_20 ?_
      exact jr_iret C B hr hlocks (jkc rfl) ⟨rfl, h⟩ dX7_errorOf_21
theorem cl_X7_errorOf {p : Program} {l : Launch} {e : Env} {R : Room} {s : State} {m : MethodId} {args : Array Value} {below : List Frame} {meth : Method} {c : Code} {H : Heap} {locs : List Loc} {cells slots : Nat} {Q : State → Prop} {cc : ByteArray} {nL : Nat} {own : String} {G : jG} {H0 : Heap} {pc idx : Nat} {ls : Array Slot} {rest : List Value} {N : Nat} {M : jM} {o a1 a2 : Int} {k : Int → Prop} (C : Cx G p s args m c cc nL own) (hl : ls.size = nL) (B : Hp G M H0 H locs) (q1 : Cond.methodLink own idx yX7_errorOf ∈ tb) (hR : (rmm 2 45).frames + 1 ≤ R.frames ∧ 8 + (3 + 11) + (rmm 2 45).locals ≤ R.locals) (hcs : cells ≤ R.cells ∧ slots ≤ R.slots) (hW : (rest.map fun v => v.category).sum ≤ 8) (k_o : jK o = 8) (r_a1 : jR a1) (r_a2 : jR a2) (h : w_X7_errorOf N M o a1 a2 k) (hdg : decode cc pc = .ok (.invokevirtual idx, 3)) (kk : ∀ (r : Int), jR r → ∀ (H1 : Heap) (locs1 : List Loc), k r → Hp G M H0 H1 locs1 → W p l e R s m args below meth c H1 locs1 cells slots Q (F0 m (pc + 3) ls (.int (jI r) :: rest))) : W p l e R s m args below meth c H locs cells slots Q (F0 m pc ls (.int (jI a2) :: .int (jI a1) :: .ref (jD G o) :: rest)) :=
  jr_callI B (jr_runV (o := o) (As := [.int (jI a1), .int (jI a2)]) (n := 2) C hl B (m_X7_errorOf B.2.2 k_o r_a1 r_a2 h) (jE8 k_o) (by omega) rfl q1 q_778 qs_30 q_779 q_8 ⟨by decide, by decide, by decide +kernel⟩ rfl ⟨rfl, rfl⟩ hR hcs rfl hW hdg) (fun r M' H1 locs1 hr hk B1 => by obtain ⟨rfl, hk⟩ := hk; exact kk r hr H1 locs1 hk B1)
def lp_X7_goDelete_60 (o : Int) (kx60 : jM → Prop) : Nat → Int → jM → Prop
  | 0, _, _ => False
  | n + 1, x8, M9 => (if x8 < 1115 then (if (jW (x8 + 106)) < 1115 then (jB (jW (x8 + 106)) 1115 ∧ (jB x8 1115 ∧ jL (jU M9 (o + 1) x8 (M9 (o + 1) (jW (x8 + 106)))) (fun M13 => (jL (jW (x8 + 1)) (fun x14 => (lp_X7_goDelete_60 o kx60 n x14 M13)))))) else (jB x8 1115 ∧ jL (jU M9 (o + 1) x8 0) (fun M15 => (jL (jW (x8 + 1)) (fun x16 => (lp_X7_goDelete_60 o kx60 n x16 M15)))))) else (kx60 M9))
def w_X7_goDelete (N : Nat) (M : jM) (o : Int) (a1 : Int) (a2 : Int) (k : Int → jM → Prop) : Prop := (w_X7_placeOf N M o a2 (fun x1 => (w_X7_errorOf N M o a1 a2 (fun x2 => (if x2 < 0 then (w_X7_errorOf N M o a1 a2 (fun x3 => (if x3 < 0 then (k (-1000001) M) else (k (-1000006) M)))) else (w_X7_isBarred M o x1 a1 (fun x4 => (if x4 = 0 then (jB 0 1115 ∧ (jB 0 1115 ∧ jL (jU M (o + 1) 0 (jW ((M (o + 1) 0) - 1))) (fun M6 => (jL (jW (55 + (jW (106 * x1)))) (fun x7 => (lp_X7_goDelete_60 o (fun (M10 : jM) => (jB 0 1115 ∧ (k (M10 (o + 1) 0) M10))) N x7 M6)))))) else (w_X7_errorOf N M o a1 a2 (fun x17 => (if x17 < 0 then (k (-1000001) M) else (k (-1000006) M))))))))))))
set_option maxHeartbeats 4000000 in
set_option maxRecDepth 100000 in
theorem m_X7_goDelete {l : Launch} {G : jG} {N : Nat} {M : jM} {o a1 a2 : Int} {k : Int → jM → Prop} (o_M : jOK M) (k_o : jK o = 8) (r_a1 : jR a1) (r_a2 : jR a2) (h : w_X7_goDelete N M o a1 a2 k) : Met l yX7_goDelete (wsG yX7_goDelete cX7_goDelete 5 (some .int)) (rmm 3 67) (jPc G M [.ref (jD G o), .int (jI a1), .int (jI a2)]) (qI G k) 0 0 (gA G) := by
  refine jm_start RX7 rfl (by decide) (Nat.le_of_ble_eq_true rfl) o_M ?_
  intro p e s m args below meth c ls C hr hlocks hl B
  have hl : lv_has ls 5 [(0, .ref (jD G o)), (1, .int (jI a1)), (2, .int (jI a2))] := hl
  unfold w_X7_goDelete at h
  refine lv_aload_n C.1 C.2.1 dX7_goDelete_0 rfl (lv_at hl 0 rfl) ?_
  refine lv_iload_n C.1 C.2.1 dX7_goDelete_1 rfl (lv_at hl 2 rfl) ?_
  refine cl_X7_placeOf C hl.1 B q_749 ⟨Nat.le_of_ble_eq_true rfl, Nat.le_of_ble_eq_true rfl⟩ ⟨Nat.zero_le _, Nat.zero_le _⟩ (Nat.le_of_ble_eq_true rfl) k_o r_a2 h dX7_goDelete_2 (fun x1 r_x1 _ _ h B => ?_)
  refine lv_istore_n (lv' := [(3, .int (jI x1)), (0, .ref (jD G o)), (1, .int (jI a1)), (2, .int (jI a2))]) C.1 C.2.1 dX7_goDelete_5 rfl hl (by decide) rfl (fun ls hl => ?_)
  refine lv_aload_n C.1 C.2.1 dX7_goDelete_6 rfl (lv_at hl 1 rfl) ?_
  refine lv_iload_n C.1 C.2.1 dX7_goDelete_7 rfl (lv_at hl 2 rfl) ?_
  refine lv_iload_n C.1 C.2.1 dX7_goDelete_8 rfl (lv_at hl 3 rfl) ?_
  refine cl_X7_errorOf C hl.1 B q_776 ⟨Nat.le_of_ble_eq_true rfl, Nat.le_of_ble_eq_true rfl⟩ ⟨Nat.zero_le _, Nat.zero_le _⟩ (Nat.le_of_ble_eq_true rfl) k_o r_a1 r_a2 h dX7_goDelete_9 (fun x2 r_x2 _ _ h B => ?_)
  refine jr_if_lt (tgt := 24) C r_x2 h dX7_goDelete_12 (by decide) (fun hc12 h => ?_) (fun hc12 h => ?_)
  · refine lv_aload_n C.1 C.2.1 dX7_goDelete_24 rfl (lv_at hl 1 rfl) ?_
    refine lv_iload_n C.1 C.2.1 dX7_goDelete_25 rfl (lv_at hl 2 rfl) ?_
    refine lv_iload_n C.1 C.2.1 dX7_goDelete_26 rfl (lv_at hl 3 rfl) ?_
    refine cl_X7_errorOf C hl.1 B q_776 ⟨Nat.le_of_ble_eq_true rfl, Nat.le_of_ble_eq_true rfl⟩ ⟨Nat.zero_le _, Nat.zero_le _⟩ (Nat.le_of_ble_eq_true rfl) k_o r_a1 r_a2 h dX7_goDelete_27 (fun x3 r_x3 _ _ h B => ?_)
    refine jr_if_ge (tgt := 38) C r_x3 h dX7_goDelete_30 (by decide) (fun hc30 h => ?_) (fun hc30 h => ?_)
    · refine jr_ldc (n := -1000001) C q_753 (by decide) dX7_goDelete_33 ?_
      refine lv_goto (tgt := 40) C.1 C.2.1 dX7_goDelete_35 (by decide) ?_
      exact jr_iret C B hr hlocks (jkc rfl) h dX7_goDelete_40
    · refine jr_ldc (n := -1000006) C q_787 (by decide) dX7_goDelete_38 ?_
      exact jr_iret C B hr hlocks (jkc rfl) h dX7_goDelete_40
  · refine lv_aload_n C.1 C.2.1 dX7_goDelete_15 rfl (lv_at hl 1 rfl) ?_
    refine lv_iload_n C.1 C.2.1 dX7_goDelete_16 rfl (lv_at hl 0 rfl) ?_
    refine lv_iload_n C.1 C.2.1 dX7_goDelete_17 rfl (lv_at hl 2 rfl) ?_
    refine cl_X7_isBarred C hl.1 B q_783 ⟨Nat.le_of_ble_eq_true rfl, Nat.le_of_ble_eq_true rfl⟩ ⟨Nat.zero_le _, Nat.zero_le _⟩ (Nat.le_of_ble_eq_true rfl) k_o r_x1 r_a1 h dX7_goDelete_18 (fun x4 z_x4 _ _ h B => ?_)
    refine jr_if_eq (tgt := 41) C (zR z_x4) h dX7_goDelete_21 (by decide) (fun hc21 h => ?_) (fun hc21 h => ?_)
    · refine lv_aload_n C.1 C.2.1 dX7_goDelete_41 rfl (lv_at hl 1 rfl) ?_
      refine gf_X7_7 C B k_o dX7_goDelete_42 ?_
      refine jr_iconst C dX7_goDelete_45 ?_
      refine jr_dup2 C rfl rfl dX7_goDelete_46 ?_
      obtain ⟨g5, h⟩ := h
      refine jr_iald C B 1115 (jk1 (ko_X7_0 k_o) rfl) (jk2 (ko_X7_0 k_o) rfl) (jkc rfl) g5 dX7_goDelete_47 ?_
      refine jr_iconst C dX7_goDelete_48 ?_
      refine jr_isub C dX7_goDelete_49 ?_
      refine jr_iast C B 1115 (jk1 (ko_X7_0 k_o) rfl) (jk2 (ko_X7_0 k_o) rfl) (jkc rfl) (jW_R _) h dX7_goDelete_50 (fun M6 _ _ h B => ?_)
      have o_M6 := B.2.2
      refine jr_bipush C dX7_goDelete_51 (by decide) ?_
      refine jr_bipush C dX7_goDelete_53 (by decide) ?_
      refine lv_iload_n C.1 C.2.1 dX7_goDelete_55 rfl (lv_at hl 0 rfl) ?_
      refine jr_imul C dX7_goDelete_56 ?_
      refine jr_iadd C dX7_goDelete_57 ?_
      refine jr_nm h (jW_R _) (fun x7 h r_x7 => ?_)
      refine lv_istore (lv' := [(4, .int (jI x7)), (3, .int (jI x1)), (0, .ref (jD G o)), (1, .int (jI a1)), (2, .int (jI a2))]) C.1 C.2.1 dX7_goDelete_58 hl (by decide) rfl (fun ls hl => ?_)
      obtain ⟨kx60, hkx60, h⟩ : ∃ kx60 : jM → Prop, (∀ (M10 : jM) (H : Heap) (locs : List Loc) (ls : Array Slot), kx60 M10 → Hp G M10 s.heap H locs → lv_has ls 5 [(0, .ref (jD G o))] → W p l e (rmm 3 67) s m args below meth c H locs 0 0 (MQ below (qI G k) args s 0 0 (gA G)) (F0 m 106 ls [])) ∧ lp_X7_goDelete_60 o kx60 N x7 M6 := by
        refine ⟨_, ?_, h⟩
        intro M10 H locs ls h  B hl
        have o_M10 := B.2.2
        refine lv_aload_n C.1 C.2.1 dX7_goDelete_106 rfl (lv_at hl 0 rfl) ?_
        refine gf_X7_7 C B k_o dX7_goDelete_107 ?_
        refine jr_iconst C dX7_goDelete_110 ?_
        obtain ⟨g11, h⟩ := h
        refine jr_iald C B 1115 (jk1 (ko_X7_0 k_o) rfl) (jk2 (ko_X7_0 k_o) rfl) (jkc rfl) g11 dX7_goDelete_111 ?_
        exact jr_iret C B hr hlocks (o_M10 (o + 1) 0).1 h dX7_goDelete_112
      have hL60 : ∀ (n : Nat) (x8 : Int) (M9 : jM) (H : Heap) (locs : List Loc) (ls : Array Slot), lp_X7_goDelete_60 o kx60 n x8 M9 → jR x8 → Hp G M9 s.heap H locs → lv_has ls 5 [(4, .int (jI x8)), (0, .ref (jD G o))] → W p l e (rmm 3 67) s m args below meth c H locs 0 0 (MQ below (qI G k) args s 0 0 (gA G)) (F0 m 60 ls []) := by
        intro n
        induction n with
        | zero => intro x8 M9 H locs ls h; exact (show False from h).elim
        | succ n ih60 =>
          intro x8 M9 H locs ls h r_x8 B hl
          have o_M9 := B.2.2
          rw [lp_X7_goDelete_60] at h
          refine lv_iload C.1 C.2.1 dX7_goDelete_60 (lv_at hl 0 rfl) ?_
          refine jr_sipush C dX7_goDelete_62 (by decide) ?_
          refine jr_icmp_ge (tgt := 106) C r_x8 (jkc rfl) h dX7_goDelete_65 (by decide) (fun hc65 h => ?_) (fun hc65 h => ?_)
          · refine lv_aload_n C.1 C.2.1 dX7_goDelete_68 rfl (lv_at hl 1 rfl) ?_
            refine gf_X7_7 C B k_o dX7_goDelete_69 ?_
            refine lv_iload C.1 C.2.1 dX7_goDelete_72 (lv_at hl 0 rfl) ?_
            refine lv_iload C.1 C.2.1 dX7_goDelete_74 (lv_at hl 0 rfl) ?_
            refine jr_bipush C dX7_goDelete_76 (by decide) ?_
            refine jr_iadd C dX7_goDelete_78 ?_
            refine jr_sipush C dX7_goDelete_79 (by decide) ?_
            refine jr_icmp_ge (tgt := 98) C (jW_R _) (jkc rfl) h dX7_goDelete_82 (by decide) (fun hc82 h => ?_) (fun hc82 h => ?_)
            · refine lv_aload_n C.1 C.2.1 dX7_goDelete_85 rfl (lv_at hl 1 rfl) ?_
              refine gf_X7_7 C B k_o dX7_goDelete_86 ?_
              refine lv_iload C.1 C.2.1 dX7_goDelete_89 (lv_at hl 0 rfl) ?_
              refine jr_bipush C dX7_goDelete_91 (by decide) ?_
              refine jr_iadd C dX7_goDelete_93 ?_
              obtain ⟨g12, h⟩ := h
              refine jr_iald C B 1115 (jk1 (ko_X7_0 k_o) rfl) (jk2 (ko_X7_0 k_o) rfl) (jW_R _) g12 dX7_goDelete_94 ?_
              refine lv_goto (tgt := 99) C.1 C.2.1 dX7_goDelete_95 (by decide) ?_
              refine jr_iast C B 1115 (jk1 (ko_X7_0 k_o) rfl) (jk2 (ko_X7_0 k_o) rfl) r_x8 (o_M9 (o + 1) (jW (x8 + 106))).1 h dX7_goDelete_99 (fun M13 _ _ h B => ?_)
              have o_M13 := B.2.2
              refine jr_iinc (k := 0) (lv' := fun x14 => [(4, .int (jI x14)), (0, .ref (jD G o))]) C h hl rfl (by decide) (fun _ => rfl) dX7_goDelete_100 (fun x14 h r_x14 ls hl => ?_)
              refine lv_goto (tgt := 60) C.1 C.2.1 dX7_goDelete_103 (by decide) ?_
              exact ih60 _ _ _ _ _ h r_x14 B (lv_sub hl [0, 1] rfl)
            · refine jr_iconst C dX7_goDelete_98 ?_
              refine jr_iast C B 1115 (jk1 (ko_X7_0 k_o) rfl) (jk2 (ko_X7_0 k_o) rfl) r_x8 (jkc rfl) h dX7_goDelete_99 (fun M15 _ _ h B => ?_)
              have o_M15 := B.2.2
              refine jr_iinc (k := 0) (lv' := fun x16 => [(4, .int (jI x16)), (0, .ref (jD G o))]) C h hl rfl (by decide) (fun _ => rfl) dX7_goDelete_100 (fun x16 h r_x16 ls hl => ?_)
              refine lv_goto (tgt := 60) C.1 C.2.1 dX7_goDelete_103 (by decide) ?_
              exact ih60 _ _ _ _ _ h r_x16 B (lv_sub hl [0, 1] rfl)
          · exact hkx60 _ _ _ _ h  B (lv_sub hl [1] rfl)
      exact hL60 N _ _ _ _ _ h r_x7 B (lv_sub hl [0, 2] rfl)
    · refine lv_aload_n C.1 C.2.1 dX7_goDelete_24 rfl (lv_at hl 1 rfl) ?_
      refine lv_iload_n C.1 C.2.1 dX7_goDelete_25 rfl (lv_at hl 2 rfl) ?_
      refine lv_iload_n C.1 C.2.1 dX7_goDelete_26 rfl (lv_at hl 3 rfl) ?_
      refine cl_X7_errorOf C hl.1 B q_776 ⟨Nat.le_of_ble_eq_true rfl, Nat.le_of_ble_eq_true rfl⟩ ⟨Nat.zero_le _, Nat.zero_le _⟩ (Nat.le_of_ble_eq_true rfl) k_o r_a1 r_a2 h dX7_goDelete_27 (fun x17 r_x17 _ _ h B => ?_)
      refine jr_if_ge (tgt := 38) C r_x17 h dX7_goDelete_30 (by decide) (fun hc30 h => ?_) (fun hc30 h => ?_)
      · refine jr_ldc (n := -1000001) C q_753 (by decide) dX7_goDelete_33 ?_
        refine lv_goto (tgt := 40) C.1 C.2.1 dX7_goDelete_35 (by decide) ?_
        exact jr_iret C B hr hlocks (jkc rfl) h dX7_goDelete_40
      · refine jr_ldc (n := -1000006) C q_787 (by decide) dX7_goDelete_38 ?_
        exact jr_iret C B hr hlocks (jkc rfl) h dX7_goDelete_40
theorem cl_X7_goDelete {p : Program} {l : Launch} {e : Env} {R : Room} {s : State} {m : MethodId} {args : Array Value} {below : List Frame} {meth : Method} {c : Code} {H : Heap} {locs : List Loc} {cells slots : Nat} {Q : State → Prop} {cc : ByteArray} {nL : Nat} {own : String} {G : jG} {H0 : Heap} {pc idx : Nat} {ls : Array Slot} {rest : List Value} {N : Nat} {M : jM} {o a1 a2 : Int} {k : Int → jM → Prop} (C : Cx G p s args m c cc nL own) (hl : ls.size = nL) (B : Hp G M H0 H locs) (q1 : Cond.methodLink own idx yX7_goDelete ∈ tb) (hR : (rmm 3 67).frames + 1 ≤ R.frames ∧ 8 + (5 + 11) + (rmm 3 67).locals ≤ R.locals) (hcs : cells ≤ R.cells ∧ slots ≤ R.slots) (hW : (rest.map fun v => v.category).sum ≤ 8) (k_o : jK o = 8) (r_a1 : jR a1) (r_a2 : jR a2) (h : w_X7_goDelete N M o a1 a2 k) (hdg : decode cc pc = .ok (.invokevirtual idx, 3)) (kk : ∀ (r : Int) (M' : jM), jR r → ∀ (H1 : Heap) (locs1 : List Loc), k r M' → Hp G M' H0 H1 locs1 → W p l e R s m args below meth c H1 locs1 cells slots Q (F0 m (pc + 3) ls (.int (jI r) :: rest))) : W p l e R s m args below meth c H locs cells slots Q (F0 m pc ls (.int (jI a2) :: .int (jI a1) :: .ref (jD G o) :: rest)) :=
  jr_callI B (jr_runV (o := o) (As := [.int (jI a1), .int (jI a2)]) (n := 2) C hl B (m_X7_goDelete B.2.2 k_o r_a1 r_a2 h) (jE8 k_o) (by omega) rfl q1 q_774 qs_29 q_775 q_8 ⟨by decide, by decide, by decide +kernel⟩ rfl ⟨rfl, rfl⟩ hR hcs rfl hW hdg) (fun r M' H1 locs1 hr hk B1 => kk r M' hr H1 locs1 hk B1)
def w_X7_goLock (N : Nat) (M : jM) (o : Int) (a1 : Int) (a2 : Int) (k : Int → jM → Prop) : Prop := (w_X7_placeOf N M o a2 (fun x1 => (w_X7_errorOf N M o a1 a2 (fun x2 => (if x2 < 0 then (w_X7_errorOf N M o a1 a2 (fun x3 => (if x3 < 0 then (k (-1000001) M) else (k (-1000006) M)))) else (w_X7_isBarred M o x1 a1 (fun x4 => (if x4 = 0 then (w_X7_lays M o x1 1 (jW (a1 + 1)) (fun M5 => (w_X7_lockedBy N M5 o a1 (fun x6 => (k x6 M5))))) else (w_X7_errorOf N M o a1 a2 (fun x7 => (if x7 < 0 then (k (-1000001) M) else (k (-1000006) M))))))))))))
set_option maxHeartbeats 4000000 in
set_option maxRecDepth 100000 in
theorem m_X7_goLock {l : Launch} {G : jG} {N : Nat} {M : jM} {o a1 a2 : Int} {k : Int → jM → Prop} (o_M : jOK M) (k_o : jK o = 8) (r_a1 : jR a1) (r_a2 : jR a2) (h : w_X7_goLock N M o a1 a2 k) : Met l yX7_goLock (wsG yX7_goLock cX7_goLock 4 (some .int)) (rmm 3 67) (jPc G M [.ref (jD G o), .int (jI a1), .int (jI a2)]) (qI G k) 0 0 (gA G) := by
  refine jm_start RX7 rfl (by decide) (Nat.le_of_ble_eq_true rfl) o_M ?_
  intro p e s m args below meth c ls C hr hlocks hl B
  have hl : lv_has ls 4 [(0, .ref (jD G o)), (1, .int (jI a1)), (2, .int (jI a2))] := hl
  unfold w_X7_goLock at h
  refine lv_aload_n C.1 C.2.1 dX7_goLock_0 rfl (lv_at hl 0 rfl) ?_
  refine lv_iload_n C.1 C.2.1 dX7_goLock_1 rfl (lv_at hl 2 rfl) ?_
  refine cl_X7_placeOf C hl.1 B q_749 ⟨Nat.le_of_ble_eq_true rfl, Nat.le_of_ble_eq_true rfl⟩ ⟨Nat.zero_le _, Nat.zero_le _⟩ (Nat.le_of_ble_eq_true rfl) k_o r_a2 h dX7_goLock_2 (fun x1 r_x1 _ _ h B => ?_)
  refine lv_istore_n (lv' := [(3, .int (jI x1)), (0, .ref (jD G o)), (1, .int (jI a1)), (2, .int (jI a2))]) C.1 C.2.1 dX7_goLock_5 rfl hl (by decide) rfl (fun ls hl => ?_)
  refine lv_aload_n C.1 C.2.1 dX7_goLock_6 rfl (lv_at hl 1 rfl) ?_
  refine lv_iload_n C.1 C.2.1 dX7_goLock_7 rfl (lv_at hl 2 rfl) ?_
  refine lv_iload_n C.1 C.2.1 dX7_goLock_8 rfl (lv_at hl 3 rfl) ?_
  refine cl_X7_errorOf C hl.1 B q_776 ⟨Nat.le_of_ble_eq_true rfl, Nat.le_of_ble_eq_true rfl⟩ ⟨Nat.zero_le _, Nat.zero_le _⟩ (Nat.le_of_ble_eq_true rfl) k_o r_a1 r_a2 h dX7_goLock_9 (fun x2 r_x2 _ _ h B => ?_)
  refine jr_if_lt (tgt := 24) C r_x2 h dX7_goLock_12 (by decide) (fun hc12 h => ?_) (fun hc12 h => ?_)
  · refine lv_aload_n C.1 C.2.1 dX7_goLock_24 rfl (lv_at hl 1 rfl) ?_
    refine lv_iload_n C.1 C.2.1 dX7_goLock_25 rfl (lv_at hl 2 rfl) ?_
    refine lv_iload_n C.1 C.2.1 dX7_goLock_26 rfl (lv_at hl 3 rfl) ?_
    refine cl_X7_errorOf C hl.1 B q_776 ⟨Nat.le_of_ble_eq_true rfl, Nat.le_of_ble_eq_true rfl⟩ ⟨Nat.zero_le _, Nat.zero_le _⟩ (Nat.le_of_ble_eq_true rfl) k_o r_a1 r_a2 h dX7_goLock_27 (fun x3 r_x3 _ _ h B => ?_)
    refine jr_if_ge (tgt := 38) C r_x3 h dX7_goLock_30 (by decide) (fun hc30 h => ?_) (fun hc30 h => ?_)
    · refine jr_ldc (n := -1000001) C q_753 (by decide) dX7_goLock_33 ?_
      refine lv_goto (tgt := 40) C.1 C.2.1 dX7_goLock_35 (by decide) ?_
      exact jr_iret C B hr hlocks (jkc rfl) h dX7_goLock_40
    · refine jr_ldc (n := -1000006) C q_787 (by decide) dX7_goLock_38 ?_
      exact jr_iret C B hr hlocks (jkc rfl) h dX7_goLock_40
  · refine lv_aload_n C.1 C.2.1 dX7_goLock_15 rfl (lv_at hl 1 rfl) ?_
    refine lv_iload_n C.1 C.2.1 dX7_goLock_16 rfl (lv_at hl 0 rfl) ?_
    refine lv_iload_n C.1 C.2.1 dX7_goLock_17 rfl (lv_at hl 2 rfl) ?_
    refine cl_X7_isBarred C hl.1 B q_783 ⟨Nat.le_of_ble_eq_true rfl, Nat.le_of_ble_eq_true rfl⟩ ⟨Nat.zero_le _, Nat.zero_le _⟩ (Nat.le_of_ble_eq_true rfl) k_o r_x1 r_a1 h dX7_goLock_18 (fun x4 z_x4 _ _ h B => ?_)
    refine jr_if_eq (tgt := 41) C (zR z_x4) h dX7_goLock_21 (by decide) (fun hc21 h => ?_) (fun hc21 h => ?_)
    · refine lv_aload_n C.1 C.2.1 dX7_goLock_41 rfl (lv_at hl 1 rfl) ?_
      refine lv_iload_n C.1 C.2.1 dX7_goLock_42 rfl (lv_at hl 0 rfl) ?_
      refine jr_iconst C dX7_goLock_43 ?_
      refine lv_iload_n C.1 C.2.1 dX7_goLock_44 rfl (lv_at hl 2 rfl) ?_
      refine jr_iconst C dX7_goLock_45 ?_
      refine jr_iadd C dX7_goLock_46 ?_
      refine cl_X7_lays C hl.1 B q_760 ⟨Nat.le_of_ble_eq_true rfl, Nat.le_of_ble_eq_true rfl⟩ ⟨Nat.zero_le _, Nat.zero_le _⟩ (Nat.le_of_ble_eq_true rfl) k_o r_x1 (jkc rfl) (jW_R _) h dX7_goLock_47 (fun M5 _ _ h B => ?_)
      have o_M5 := B.2.2
      refine lv_aload_n C.1 C.2.1 dX7_goLock_50 rfl (lv_at hl 1 rfl) ?_
      refine lv_iload_n C.1 C.2.1 dX7_goLock_51 rfl (lv_at hl 2 rfl) ?_
      refine cl_X7_lockedBy C hl.1 B q_796 ⟨Nat.le_of_ble_eq_true rfl, Nat.le_of_ble_eq_true rfl⟩ ⟨Nat.zero_le _, Nat.zero_le _⟩ (Nat.le_of_ble_eq_true rfl) k_o r_a1 h dX7_goLock_52 (fun x6 r_x6 _ _ h B => ?_)
      exact jr_iret C B hr hlocks r_x6 h dX7_goLock_55
    · refine lv_aload_n C.1 C.2.1 dX7_goLock_24 rfl (lv_at hl 1 rfl) ?_
      refine lv_iload_n C.1 C.2.1 dX7_goLock_25 rfl (lv_at hl 2 rfl) ?_
      refine lv_iload_n C.1 C.2.1 dX7_goLock_26 rfl (lv_at hl 3 rfl) ?_
      refine cl_X7_errorOf C hl.1 B q_776 ⟨Nat.le_of_ble_eq_true rfl, Nat.le_of_ble_eq_true rfl⟩ ⟨Nat.zero_le _, Nat.zero_le _⟩ (Nat.le_of_ble_eq_true rfl) k_o r_a1 r_a2 h dX7_goLock_27 (fun x7 r_x7 _ _ h B => ?_)
      refine jr_if_ge (tgt := 38) C r_x7 h dX7_goLock_30 (by decide) (fun hc30 h => ?_) (fun hc30 h => ?_)
      · refine jr_ldc (n := -1000001) C q_753 (by decide) dX7_goLock_33 ?_
        refine lv_goto (tgt := 40) C.1 C.2.1 dX7_goLock_35 (by decide) ?_
        exact jr_iret C B hr hlocks (jkc rfl) h dX7_goLock_40
      · refine jr_ldc (n := -1000006) C q_787 (by decide) dX7_goLock_38 ?_
        exact jr_iret C B hr hlocks (jkc rfl) h dX7_goLock_40
theorem cl_X7_goLock {p : Program} {l : Launch} {e : Env} {R : Room} {s : State} {m : MethodId} {args : Array Value} {below : List Frame} {meth : Method} {c : Code} {H : Heap} {locs : List Loc} {cells slots : Nat} {Q : State → Prop} {cc : ByteArray} {nL : Nat} {own : String} {G : jG} {H0 : Heap} {pc idx : Nat} {ls : Array Slot} {rest : List Value} {N : Nat} {M : jM} {o a1 a2 : Int} {k : Int → jM → Prop} (C : Cx G p s args m c cc nL own) (hl : ls.size = nL) (B : Hp G M H0 H locs) (q1 : Cond.methodLink own idx yX7_goLock ∈ tb) (hR : (rmm 3 67).frames + 1 ≤ R.frames ∧ 8 + (4 + 11) + (rmm 3 67).locals ≤ R.locals) (hcs : cells ≤ R.cells ∧ slots ≤ R.slots) (hW : (rest.map fun v => v.category).sum ≤ 8) (k_o : jK o = 8) (r_a1 : jR a1) (r_a2 : jR a2) (h : w_X7_goLock N M o a1 a2 k) (hdg : decode cc pc = .ok (.invokevirtual idx, 3)) (kk : ∀ (r : Int) (M' : jM), jR r → ∀ (H1 : Heap) (locs1 : List Loc), k r M' → Hp G M' H0 H1 locs1 → W p l e R s m args below meth c H1 locs1 cells slots Q (F0 m (pc + 3) ls (.int (jI r) :: rest))) : W p l e R s m args below meth c H locs cells slots Q (F0 m pc ls (.int (jI a2) :: .int (jI a1) :: .ref (jD G o) :: rest)) :=
  jr_callI B (jr_runV (o := o) (As := [.int (jI a1), .int (jI a2)]) (n := 2) C hl B (m_X7_goLock B.2.2 k_o r_a1 r_a2 h) (jE8 k_o) (by omega) rfl q1 q_794 qs_32 q_795 q_8 ⟨by decide, by decide, by decide +kernel⟩ rfl ⟨rfl, rfl⟩ hR hcs rfl hW hdg) (fun r M' H1 locs1 hr hk B1 => kk r M' hr H1 locs1 hk B1)
def w_X7_goUnlock (N : Nat) (M : jM) (o : Int) (a1 : Int) (a2 : Int) (k : Int → jM → Prop) : Prop := (w_X7_placeOf N M o a2 (fun x1 => (w_X7_errorOf N M o a1 a2 (fun x2 => (if x2 < 0 then (w_X7_errorOf N M o a1 a2 (fun x3 => (if x3 < 0 then (k (-1000001) M) else (k (-1000006) M)))) else (w_X7_isBarred M o x1 a1 (fun x4 => (if x4 = 0 then (w_X7_of M o x1 1 (fun x5 => (if x5 = 0 then (k (-1000005) M) else (w_X7_lays M o x1 1 0 (fun M6 => (w_X7_lockedBy N M6 o a1 (fun x7 => (k x7 M6)))))))) else (w_X7_errorOf N M o a1 a2 (fun x8 => (if x8 < 0 then (k (-1000001) M) else (k (-1000006) M))))))))))))
set_option maxHeartbeats 4000000 in
set_option maxRecDepth 100000 in
theorem m_X7_goUnlock {l : Launch} {G : jG} {N : Nat} {M : jM} {o a1 a2 : Int} {k : Int → jM → Prop} (o_M : jOK M) (k_o : jK o = 8) (r_a1 : jR a1) (r_a2 : jR a2) (h : w_X7_goUnlock N M o a1 a2 k) : Met l yX7_goUnlock (wsG yX7_goUnlock cX7_goUnlock 4 (some .int)) (rmm 3 67) (jPc G M [.ref (jD G o), .int (jI a1), .int (jI a2)]) (qI G k) 0 0 (gA G) := by
  refine jm_start RX7 rfl (by decide) (Nat.le_of_ble_eq_true rfl) o_M ?_
  intro p e s m args below meth c ls C hr hlocks hl B
  have hl : lv_has ls 4 [(0, .ref (jD G o)), (1, .int (jI a1)), (2, .int (jI a2))] := hl
  unfold w_X7_goUnlock at h
  refine lv_aload_n C.1 C.2.1 dX7_goUnlock_0 rfl (lv_at hl 0 rfl) ?_
  refine lv_iload_n C.1 C.2.1 dX7_goUnlock_1 rfl (lv_at hl 2 rfl) ?_
  refine cl_X7_placeOf C hl.1 B q_749 ⟨Nat.le_of_ble_eq_true rfl, Nat.le_of_ble_eq_true rfl⟩ ⟨Nat.zero_le _, Nat.zero_le _⟩ (Nat.le_of_ble_eq_true rfl) k_o r_a2 h dX7_goUnlock_2 (fun x1 r_x1 _ _ h B => ?_)
  refine lv_istore_n (lv' := [(3, .int (jI x1)), (0, .ref (jD G o)), (1, .int (jI a1)), (2, .int (jI a2))]) C.1 C.2.1 dX7_goUnlock_5 rfl hl (by decide) rfl (fun ls hl => ?_)
  refine lv_aload_n C.1 C.2.1 dX7_goUnlock_6 rfl (lv_at hl 1 rfl) ?_
  refine lv_iload_n C.1 C.2.1 dX7_goUnlock_7 rfl (lv_at hl 2 rfl) ?_
  refine lv_iload_n C.1 C.2.1 dX7_goUnlock_8 rfl (lv_at hl 3 rfl) ?_
  refine cl_X7_errorOf C hl.1 B q_776 ⟨Nat.le_of_ble_eq_true rfl, Nat.le_of_ble_eq_true rfl⟩ ⟨Nat.zero_le _, Nat.zero_le _⟩ (Nat.le_of_ble_eq_true rfl) k_o r_a1 r_a2 h dX7_goUnlock_9 (fun x2 r_x2 _ _ h B => ?_)
  refine jr_if_lt (tgt := 24) C r_x2 h dX7_goUnlock_12 (by decide) (fun hc12 h => ?_) (fun hc12 h => ?_)
  · refine lv_aload_n C.1 C.2.1 dX7_goUnlock_24 rfl (lv_at hl 1 rfl) ?_
    refine lv_iload_n C.1 C.2.1 dX7_goUnlock_25 rfl (lv_at hl 2 rfl) ?_
    refine lv_iload_n C.1 C.2.1 dX7_goUnlock_26 rfl (lv_at hl 3 rfl) ?_
    refine cl_X7_errorOf C hl.1 B q_776 ⟨Nat.le_of_ble_eq_true rfl, Nat.le_of_ble_eq_true rfl⟩ ⟨Nat.zero_le _, Nat.zero_le _⟩ (Nat.le_of_ble_eq_true rfl) k_o r_a1 r_a2 h dX7_goUnlock_27 (fun x3 r_x3 _ _ h B => ?_)
    refine jr_if_ge (tgt := 38) C r_x3 h dX7_goUnlock_30 (by decide) (fun hc30 h => ?_) (fun hc30 h => ?_)
    · refine jr_ldc (n := -1000001) C q_753 (by decide) dX7_goUnlock_33 ?_
      refine lv_goto (tgt := 40) C.1 C.2.1 dX7_goUnlock_35 (by decide) ?_
      exact jr_iret C B hr hlocks (jkc rfl) h dX7_goUnlock_40
    · refine jr_ldc (n := -1000006) C q_787 (by decide) dX7_goUnlock_38 ?_
      exact jr_iret C B hr hlocks (jkc rfl) h dX7_goUnlock_40
  · refine lv_aload_n C.1 C.2.1 dX7_goUnlock_15 rfl (lv_at hl 1 rfl) ?_
    refine lv_iload_n C.1 C.2.1 dX7_goUnlock_16 rfl (lv_at hl 0 rfl) ?_
    refine lv_iload_n C.1 C.2.1 dX7_goUnlock_17 rfl (lv_at hl 2 rfl) ?_
    refine cl_X7_isBarred C hl.1 B q_783 ⟨Nat.le_of_ble_eq_true rfl, Nat.le_of_ble_eq_true rfl⟩ ⟨Nat.zero_le _, Nat.zero_le _⟩ (Nat.le_of_ble_eq_true rfl) k_o r_x1 r_a1 h dX7_goUnlock_18 (fun x4 z_x4 _ _ h B => ?_)
    refine jr_if_eq (tgt := 41) C (zR z_x4) h dX7_goUnlock_21 (by decide) (fun hc21 h => ?_) (fun hc21 h => ?_)
    · refine lv_aload_n C.1 C.2.1 dX7_goUnlock_41 rfl (lv_at hl 1 rfl) ?_
      refine lv_iload_n C.1 C.2.1 dX7_goUnlock_42 rfl (lv_at hl 0 rfl) ?_
      refine jr_iconst C dX7_goUnlock_43 ?_
      refine cl_X7_of C hl.1 B q_754 ⟨Nat.le_of_ble_eq_true rfl, Nat.le_of_ble_eq_true rfl⟩ ⟨Nat.zero_le _, Nat.zero_le _⟩ (Nat.le_of_ble_eq_true rfl) k_o r_x1 (jkc rfl) h dX7_goUnlock_44 (fun x5 r_x5 _ _ h B => ?_)
      refine jr_if_ne (tgt := 53) C r_x5 h dX7_goUnlock_47 (by decide) (fun hc47 h => ?_) (fun hc47 h => ?_)
      · refine jr_ldc (n := -1000005) C q_758 (by decide) dX7_goUnlock_50 ?_
        exact jr_iret C B hr hlocks (jkc rfl) h dX7_goUnlock_52
      · refine lv_aload_n C.1 C.2.1 dX7_goUnlock_53 rfl (lv_at hl 1 rfl) ?_
        refine lv_iload_n C.1 C.2.1 dX7_goUnlock_54 rfl (lv_at hl 0 rfl) ?_
        refine jr_iconst C dX7_goUnlock_55 ?_
        refine jr_iconst C dX7_goUnlock_56 ?_
        refine cl_X7_lays C hl.1 B q_760 ⟨Nat.le_of_ble_eq_true rfl, Nat.le_of_ble_eq_true rfl⟩ ⟨Nat.zero_le _, Nat.zero_le _⟩ (Nat.le_of_ble_eq_true rfl) k_o r_x1 (jkc rfl) (jkc rfl) h dX7_goUnlock_57 (fun M6 _ _ h B => ?_)
        have o_M6 := B.2.2
        refine lv_aload_n C.1 C.2.1 dX7_goUnlock_60 rfl (lv_at hl 1 rfl) ?_
        refine lv_iload_n C.1 C.2.1 dX7_goUnlock_61 rfl (lv_at hl 2 rfl) ?_
        refine cl_X7_lockedBy C hl.1 B q_796 ⟨Nat.le_of_ble_eq_true rfl, Nat.le_of_ble_eq_true rfl⟩ ⟨Nat.zero_le _, Nat.zero_le _⟩ (Nat.le_of_ble_eq_true rfl) k_o r_a1 h dX7_goUnlock_62 (fun x7 r_x7 _ _ h B => ?_)
        exact jr_iret C B hr hlocks r_x7 h dX7_goUnlock_65
    · refine lv_aload_n C.1 C.2.1 dX7_goUnlock_24 rfl (lv_at hl 1 rfl) ?_
      refine lv_iload_n C.1 C.2.1 dX7_goUnlock_25 rfl (lv_at hl 2 rfl) ?_
      refine lv_iload_n C.1 C.2.1 dX7_goUnlock_26 rfl (lv_at hl 3 rfl) ?_
      refine cl_X7_errorOf C hl.1 B q_776 ⟨Nat.le_of_ble_eq_true rfl, Nat.le_of_ble_eq_true rfl⟩ ⟨Nat.zero_le _, Nat.zero_le _⟩ (Nat.le_of_ble_eq_true rfl) k_o r_a1 r_a2 h dX7_goUnlock_27 (fun x8 r_x8 _ _ h B => ?_)
      refine jr_if_ge (tgt := 38) C r_x8 h dX7_goUnlock_30 (by decide) (fun hc30 h => ?_) (fun hc30 h => ?_)
      · refine jr_ldc (n := -1000001) C q_753 (by decide) dX7_goUnlock_33 ?_
        refine lv_goto (tgt := 40) C.1 C.2.1 dX7_goUnlock_35 (by decide) ?_
        exact jr_iret C B hr hlocks (jkc rfl) h dX7_goUnlock_40
      · refine jr_ldc (n := -1000006) C q_787 (by decide) dX7_goUnlock_38 ?_
        exact jr_iret C B hr hlocks (jkc rfl) h dX7_goUnlock_40
theorem cl_X7_goUnlock {p : Program} {l : Launch} {e : Env} {R : Room} {s : State} {m : MethodId} {args : Array Value} {below : List Frame} {meth : Method} {c : Code} {H : Heap} {locs : List Loc} {cells slots : Nat} {Q : State → Prop} {cc : ByteArray} {nL : Nat} {own : String} {G : jG} {H0 : Heap} {pc idx : Nat} {ls : Array Slot} {rest : List Value} {N : Nat} {M : jM} {o a1 a2 : Int} {k : Int → jM → Prop} (C : Cx G p s args m c cc nL own) (hl : ls.size = nL) (B : Hp G M H0 H locs) (q1 : Cond.methodLink own idx yX7_goUnlock ∈ tb) (hR : (rmm 3 67).frames + 1 ≤ R.frames ∧ 8 + (4 + 11) + (rmm 3 67).locals ≤ R.locals) (hcs : cells ≤ R.cells ∧ slots ≤ R.slots) (hW : (rest.map fun v => v.category).sum ≤ 8) (k_o : jK o = 8) (r_a1 : jR a1) (r_a2 : jR a2) (h : w_X7_goUnlock N M o a1 a2 k) (hdg : decode cc pc = .ok (.invokevirtual idx, 3)) (kk : ∀ (r : Int) (M' : jM), jR r → ∀ (H1 : Heap) (locs1 : List Loc), k r M' → Hp G M' H0 H1 locs1 → W p l e R s m args below meth c H1 locs1 cells slots Q (F0 m (pc + 3) ls (.int (jI r) :: rest))) : W p l e R s m args below meth c H locs cells slots Q (F0 m pc ls (.int (jI a2) :: .int (jI a1) :: .ref (jD G o) :: rest)) :=
  jr_callI B (jr_runV (o := o) (As := [.int (jI a1), .int (jI a2)]) (n := 2) C hl B (m_X7_goUnlock B.2.2 k_o r_a1 r_a2 h) (jE8 k_o) (by omega) rfl q1 q_806 qs_34 q_807 q_8 ⟨by decide, by decide, by decide +kernel⟩ rfl ⟨rfl, rfl⟩ hR hcs rfl hW hdg) (fun r M' H1 locs1 hr hk B1 => kk r M' hr H1 locs1 hk B1)
def lp_X7_goInsert_26 (N : Nat) (o : Int) (a1 : Int) (a2 : Int) (a3 : Int) (kx26 : jM → Prop) : Nat → Int → jM → Prop
  | 0, _, _ => False
  | n + 1, x2, M3 => (if x2 ≤ a3 then (kx26 M3) else (w_X7_copiesValue N M3 o a1 a2 (jW (x2 - 1)) x2 (fun M11 => (jL (jW (x2 + (-1))) (fun x12 => (lp_X7_goInsert_26 N o a1 a2 a3 kx26 n x12 M11))))))
def lp_X7_goInsert_120 (o : Int) (a1 : Int) (a2 : Int) (a3 : Int) (a4 : Int) (kx120 : jM → Prop) : Nat → Int → jM → Prop
  | 0, _, _ => False
  | n + 1, x14, M15 => (if x14 ≤ a4 then (kx120 M15) else (w_X7_numberAtCell a2 a3 x14 (fun x21 => (w_X7_numberOf M15 o a1 a2 a3 (jW (x14 - 1)) (fun x22 => (w_X7_lays M15 o a1 x21 x22 (fun M23 => (jL (jW (x14 + (-1))) (fun x24 => (lp_X7_goInsert_120 o a1 a2 a3 a4 kx120 n x24 M23))))))))))
def w_X7_goInsert (N : Nat) (M : jM) (o : Int) (a1 : Int) (a2 : Int) (a3 : Int) (a4 : Int) (a5 : Int) (k : Int → jM → Prop) : Prop := (w_X7_valuesOf M o a1 a2 (fun x1 => (if a4 < 0 then (if x1 = 5 then (k (-1000004) M) else (lp_X7_goInsert_26 N o a1 a2 a3 (fun (M4 : jM) => (w_X7_empties N M4 o a1 a2 a3 (fun M5 => (w_X7_subsAt a2 a3 (fun x6 => (w_X7_lays M5 o a1 x6 1 (fun M7 => (w_X7_numberAtCell a2 a3 0 (fun x8 => (w_X7_lays M7 o a1 x8 a5 (fun M9 => (w_X7_lays M9 o a1 (jW (2 + a2)) (jW (x1 + 1)) (fun M10 => (k (jW (x1 + 1)) M10)))))))))))))) N x1 M)) else (w_X7_subsOf M o a1 a2 a3 (fun x13 => (if x13 = 4 then (k (-1000004) M) else (lp_X7_goInsert_120 o a1 a2 a3 a4 (fun (M16 : jM) => (w_X7_numberAtCell a2 a3 a4 (fun x17 => (w_X7_lays M16 o a1 x17 a5 (fun M18 => (w_X7_subsAt a2 a3 (fun x19 => (w_X7_lays M18 o a1 x19 (jW (x13 + 1)) (fun M20 => (k (jW (x13 + 1)) M20)))))))))) N x13 M)))))))
set_option maxHeartbeats 4000000 in
set_option maxRecDepth 100000 in
theorem m_X7_goInsert {l : Launch} {G : jG} {N : Nat} {M : jM} {o a1 a2 a3 a4 a5 : Int} {k : Int → jM → Prop} (o_M : jOK M) (k_o : jK o = 8) (r_a1 : jR a1) (r_a2 : jR a2) (r_a3 : jR a3) (r_a4 : jR a4) (r_a5 : jR a5) (h : w_X7_goInsert N M o a1 a2 a3 a4 a5 k) : Met l yX7_goInsert (wsG yX7_goInsert cX7_goInsert 9 (some .int)) (rmm 3 71) (jPc G M [.ref (jD G o), .int (jI a1), .int (jI a2), .int (jI a3), .int (jI a4), .int (jI a5)]) (qI G k) 0 0 (gA G) := by
  refine jm_start RX7 rfl (by decide) (Nat.le_of_ble_eq_true rfl) o_M ?_
  intro p e s m args below meth c ls C hr hlocks hl B
  have hl : lv_has ls 9 [(0, .ref (jD G o)), (1, .int (jI a1)), (2, .int (jI a2)), (3, .int (jI a3)), (4, .int (jI a4)), (5, .int (jI a5))] := hl
  unfold w_X7_goInsert at h
  refine lv_aload_n C.1 C.2.1 dX7_goInsert_0 rfl (lv_at hl 0 rfl) ?_
  refine lv_iload_n C.1 C.2.1 dX7_goInsert_1 rfl (lv_at hl 1 rfl) ?_
  refine lv_iload_n C.1 C.2.1 dX7_goInsert_2 rfl (lv_at hl 2 rfl) ?_
  refine cl_X7_valuesOf C hl.1 B q_815 ⟨Nat.le_of_ble_eq_true rfl, Nat.le_of_ble_eq_true rfl⟩ ⟨Nat.zero_le _, Nat.zero_le _⟩ (Nat.le_of_ble_eq_true rfl) k_o r_a1 r_a2 h dX7_goInsert_3 (fun x1 r_x1 _ _ h B => ?_)
  refine lv_istore (lv' := [(6, .int (jI x1)), (0, .ref (jD G o)), (1, .int (jI a1)), (2, .int (jI a2)), (3, .int (jI a3)), (4, .int (jI a4)), (5, .int (jI a5))]) C.1 C.2.1 dX7_goInsert_6 hl (by decide) rfl (fun ls hl => ?_)
  refine lv_iload C.1 C.2.1 dX7_goInsert_8 (lv_at hl 5 rfl) ?_
  refine jr_if_ge (tgt := 98) C r_a4 h dX7_goInsert_10 (by decide) (fun hc10 h => ?_) (fun hc10 h => ?_)
  · refine lv_iload C.1 C.2.1 dX7_goInsert_13 (lv_at hl 0 rfl) ?_
    refine jr_iconst C dX7_goInsert_15 ?_
    refine jr_icmp_ne (tgt := 22) C r_x1 (jkc rfl) h dX7_goInsert_16 (by decide) (fun hc16 h => ?_) (fun hc16 h => ?_)
    · refine jr_ldc (n := -1000004) C q_759 (by decide) dX7_goInsert_19 ?_
      exact jr_iret C B hr hlocks (jkc rfl) h dX7_goInsert_21
    · refine lv_iload C.1 C.2.1 dX7_goInsert_22 (lv_at hl 0 rfl) ?_
      refine lv_istore (lv' := [(7, .int (jI x1)), (6, .int (jI x1)), (0, .ref (jD G o)), (1, .int (jI a1)), (2, .int (jI a2)), (3, .int (jI a3)), (4, .int (jI a4)), (5, .int (jI a5))]) C.1 C.2.1 dX7_goInsert_24 hl (by decide) rfl (fun ls hl => ?_)
      obtain ⟨kx26, hkx26, h⟩ : ∃ kx26 : jM → Prop, (∀ (M4 : jM) (H : Heap) (locs : List Loc) (ls : Array Slot), kx26 M4 → Hp G M4 s.heap H locs → lv_has ls 9 [(6, .int (jI x1)), (0, .ref (jD G o)), (1, .int (jI a1)), (2, .int (jI a2)), (3, .int (jI a3)), (5, .int (jI a5))] → W p l e (rmm 3 71) s m args below meth c H locs 0 0 (MQ below (qI G k) args s 0 0 (gA G)) (F0 m 50 ls [])) ∧ lp_X7_goInsert_26 N o a1 a2 a3 kx26 N x1 M := by
        refine ⟨_, ?_, h⟩
        intro M4 H locs ls h  B hl
        have o_M4 := B.2.2
        refine lv_aload_n C.1 C.2.1 dX7_goInsert_50 rfl (lv_at hl 1 rfl) ?_
        refine lv_iload_n C.1 C.2.1 dX7_goInsert_51 rfl (lv_at hl 2 rfl) ?_
        refine lv_iload_n C.1 C.2.1 dX7_goInsert_52 rfl (lv_at hl 3 rfl) ?_
        refine lv_iload_n C.1 C.2.1 dX7_goInsert_53 rfl (lv_at hl 4 rfl) ?_
        refine cl_X7_empties C hl.1 B q_848 ⟨Nat.le_of_ble_eq_true rfl, Nat.le_of_ble_eq_true rfl⟩ ⟨Nat.zero_le _, Nat.zero_le _⟩ (Nat.le_of_ble_eq_true rfl) k_o r_a1 r_a2 r_a3 h dX7_goInsert_54 (fun M5 _ _ h B => ?_)
        have o_M5 := B.2.2
        refine lv_aload_n C.1 C.2.1 dX7_goInsert_57 rfl (lv_at hl 1 rfl) ?_
        refine lv_iload_n C.1 C.2.1 dX7_goInsert_58 rfl (lv_at hl 2 rfl) ?_
        refine lv_iload_n C.1 C.2.1 dX7_goInsert_59 rfl (lv_at hl 3 rfl) ?_
        refine lv_iload_n C.1 C.2.1 dX7_goInsert_60 rfl (lv_at hl 4 rfl) ?_
        refine cl_X7_subsAt C hl.1 B q_827 ⟨Nat.le_of_ble_eq_true rfl, Nat.le_of_ble_eq_true rfl⟩ ⟨Nat.zero_le _, Nat.zero_le _⟩ (Nat.le_of_ble_eq_true rfl) r_a2 r_a3 h dX7_goInsert_61 (fun x6 r_x6 _ _ h B => ?_)
        refine jr_iconst C dX7_goInsert_64 ?_
        refine cl_X7_lays C hl.1 B q_760 ⟨Nat.le_of_ble_eq_true rfl, Nat.le_of_ble_eq_true rfl⟩ ⟨Nat.zero_le _, Nat.zero_le _⟩ (Nat.le_of_ble_eq_true rfl) k_o r_a1 r_x6 (jkc rfl) h dX7_goInsert_65 (fun M7 _ _ h B => ?_)
        have o_M7 := B.2.2
        refine lv_aload_n C.1 C.2.1 dX7_goInsert_68 rfl (lv_at hl 1 rfl) ?_
        refine lv_iload_n C.1 C.2.1 dX7_goInsert_69 rfl (lv_at hl 2 rfl) ?_
        refine lv_iload_n C.1 C.2.1 dX7_goInsert_70 rfl (lv_at hl 3 rfl) ?_
        refine lv_iload_n C.1 C.2.1 dX7_goInsert_71 rfl (lv_at hl 4 rfl) ?_
        refine jr_iconst C dX7_goInsert_72 ?_
        refine cl_X7_numberAtCell C hl.1 B q_841 ⟨Nat.le_of_ble_eq_true rfl, Nat.le_of_ble_eq_true rfl⟩ ⟨Nat.zero_le _, Nat.zero_le _⟩ (Nat.le_of_ble_eq_true rfl) r_a2 r_a3 (jkc rfl) h dX7_goInsert_73 (fun x8 r_x8 _ _ h B => ?_)
        refine lv_iload C.1 C.2.1 dX7_goInsert_76 (lv_at hl 5 rfl) ?_
        refine cl_X7_lays C hl.1 B q_760 ⟨Nat.le_of_ble_eq_true rfl, Nat.le_of_ble_eq_true rfl⟩ ⟨Nat.zero_le _, Nat.zero_le _⟩ (Nat.le_of_ble_eq_true rfl) k_o r_a1 r_x8 r_a5 h dX7_goInsert_78 (fun M9 _ _ h B => ?_)
        have o_M9 := B.2.2
        refine lv_aload_n C.1 C.2.1 dX7_goInsert_81 rfl (lv_at hl 1 rfl) ?_
        refine lv_iload_n C.1 C.2.1 dX7_goInsert_82 rfl (lv_at hl 2 rfl) ?_
        refine jr_iconst C dX7_goInsert_83 ?_
        refine lv_iload_n C.1 C.2.1 dX7_goInsert_84 rfl (lv_at hl 3 rfl) ?_
        refine jr_iadd C dX7_goInsert_85 ?_
        refine lv_iload C.1 C.2.1 dX7_goInsert_86 (lv_at hl 0 rfl) ?_
        refine jr_iconst C dX7_goInsert_88 ?_
        refine jr_iadd C dX7_goInsert_89 ?_
        refine cl_X7_lays C hl.1 B q_760 ⟨Nat.le_of_ble_eq_true rfl, Nat.le_of_ble_eq_true rfl⟩ ⟨Nat.zero_le _, Nat.zero_le _⟩ (Nat.le_of_ble_eq_true rfl) k_o r_a1 (jW_R _) (jW_R _) h dX7_goInsert_90 (fun M10 _ _ h B => ?_)
        have o_M10 := B.2.2
        refine lv_iload C.1 C.2.1 dX7_goInsert_93 (lv_at hl 0 rfl) ?_
        refine jr_iconst C dX7_goInsert_95 ?_
        refine jr_iadd C dX7_goInsert_96 ?_
        exact jr_iret C B hr hlocks (jW_R _) h dX7_goInsert_97
      have hL26 : ∀ (n : Nat) (x2 : Int) (M3 : jM) (H : Heap) (locs : List Loc) (ls : Array Slot), lp_X7_goInsert_26 N o a1 a2 a3 kx26 n x2 M3 → jR x2 → Hp G M3 s.heap H locs → lv_has ls 9 [(7, .int (jI x2)), (6, .int (jI x1)), (0, .ref (jD G o)), (1, .int (jI a1)), (2, .int (jI a2)), (3, .int (jI a3)), (5, .int (jI a5))] → W p l e (rmm 3 71) s m args below meth c H locs 0 0 (MQ below (qI G k) args s 0 0 (gA G)) (F0 m 26 ls []) := by
        intro n
        induction n with
        | zero => intro x2 M3 H locs ls h; exact (show False from h).elim
        | succ n ih26 =>
          intro x2 M3 H locs ls h r_x2 B hl
          have o_M3 := B.2.2
          rw [lp_X7_goInsert_26] at h
          refine lv_iload C.1 C.2.1 dX7_goInsert_26 (lv_at hl 0 rfl) ?_
          refine lv_iload_n C.1 C.2.1 dX7_goInsert_28 rfl (lv_at hl 5 rfl) ?_
          refine jr_icmp_le (tgt := 50) C r_x2 r_a3 h dX7_goInsert_29 (by decide) (fun hc29 h => ?_) (fun hc29 h => ?_)
          · exact hkx26 _ _ _ _ h  B (lv_sub hl [1, 2, 3, 4, 5, 6] rfl)
          · refine lv_aload_n C.1 C.2.1 dX7_goInsert_32 rfl (lv_at hl 2 rfl) ?_
            refine lv_iload_n C.1 C.2.1 dX7_goInsert_33 rfl (lv_at hl 3 rfl) ?_
            refine lv_iload_n C.1 C.2.1 dX7_goInsert_34 rfl (lv_at hl 4 rfl) ?_
            refine lv_iload C.1 C.2.1 dX7_goInsert_35 (lv_at hl 0 rfl) ?_
            refine jr_iconst C dX7_goInsert_37 ?_
            refine jr_isub C dX7_goInsert_38 ?_
            refine lv_iload C.1 C.2.1 dX7_goInsert_39 (lv_at hl 0 rfl) ?_
            refine cl_X7_copiesValue C hl.1 B q_837 ⟨Nat.le_of_ble_eq_true rfl, Nat.le_of_ble_eq_true rfl⟩ ⟨Nat.zero_le _, Nat.zero_le _⟩ (Nat.le_of_ble_eq_true rfl) k_o r_a1 r_a2 (jW_R _) r_x2 h dX7_goInsert_41 (fun M11 _ _ h B => ?_)
            have o_M11 := B.2.2
            refine jr_iinc (k := 0) (lv' := fun x12 => [(7, .int (jI x12)), (6, .int (jI x1)), (0, .ref (jD G o)), (1, .int (jI a1)), (2, .int (jI a2)), (3, .int (jI a3)), (5, .int (jI a5))]) C h hl rfl (by decide) (fun _ => rfl) dX7_goInsert_44 (fun x12 h r_x12 ls hl => ?_)
            refine lv_goto (tgt := 26) C.1 C.2.1 dX7_goInsert_47 (by decide) ?_
            exact ih26 _ _ _ _ _ h r_x12 B (lv_sub hl [0, 1, 2, 3, 4, 5, 6] rfl)
      exact hL26 N _ _ _ _ _ h r_x1 B (lv_sub hl [0, 1, 2, 3, 4, 5, 7] rfl)
  · refine lv_aload_n C.1 C.2.1 dX7_goInsert_98 rfl (lv_at hl 1 rfl) ?_
    refine lv_iload_n C.1 C.2.1 dX7_goInsert_99 rfl (lv_at hl 2 rfl) ?_
    refine lv_iload_n C.1 C.2.1 dX7_goInsert_100 rfl (lv_at hl 3 rfl) ?_
    refine lv_iload_n C.1 C.2.1 dX7_goInsert_101 rfl (lv_at hl 4 rfl) ?_
    refine cl_X7_subsOf C hl.1 B q_823 ⟨Nat.le_of_ble_eq_true rfl, Nat.le_of_ble_eq_true rfl⟩ ⟨Nat.zero_le _, Nat.zero_le _⟩ (Nat.le_of_ble_eq_true rfl) k_o r_a1 r_a2 r_a3 h dX7_goInsert_102 (fun x13 r_x13 _ _ h B => ?_)
    refine lv_istore (lv' := [(7, .int (jI x13)), (6, .int (jI x1)), (0, .ref (jD G o)), (1, .int (jI a1)), (2, .int (jI a2)), (3, .int (jI a3)), (4, .int (jI a4)), (5, .int (jI a5))]) C.1 C.2.1 dX7_goInsert_105 hl (by decide) rfl (fun ls hl => ?_)
    refine lv_iload C.1 C.2.1 dX7_goInsert_107 (lv_at hl 0 rfl) ?_
    refine jr_iconst C dX7_goInsert_109 ?_
    refine jr_icmp_ne (tgt := 116) C r_x13 (jkc rfl) h dX7_goInsert_110 (by decide) (fun hc110 h => ?_) (fun hc110 h => ?_)
    · refine jr_ldc (n := -1000004) C q_759 (by decide) dX7_goInsert_113 ?_
      exact jr_iret C B hr hlocks (jkc rfl) h dX7_goInsert_115
    · refine lv_iload C.1 C.2.1 dX7_goInsert_116 (lv_at hl 0 rfl) ?_
      refine lv_istore (lv' := [(8, .int (jI x13)), (7, .int (jI x13)), (6, .int (jI x1)), (0, .ref (jD G o)), (1, .int (jI a1)), (2, .int (jI a2)), (3, .int (jI a3)), (4, .int (jI a4)), (5, .int (jI a5))]) C.1 C.2.1 dX7_goInsert_118 hl (by decide) rfl (fun ls hl => ?_)
      obtain ⟨kx120, hkx120, h⟩ : ∃ kx120 : jM → Prop, (∀ (M16 : jM) (H : Heap) (locs : List Loc) (ls : Array Slot), kx120 M16 → Hp G M16 s.heap H locs → lv_has ls 9 [(7, .int (jI x13)), (0, .ref (jD G o)), (1, .int (jI a1)), (2, .int (jI a2)), (3, .int (jI a3)), (4, .int (jI a4)), (5, .int (jI a5))] → W p l e (rmm 3 71) s m args below meth c H locs 0 0 (MQ below (qI G k) args s 0 0 (gA G)) (F0 m 156 ls [])) ∧ lp_X7_goInsert_120 o a1 a2 a3 a4 kx120 N x13 M := by
        refine ⟨_, ?_, h⟩
        intro M16 H locs ls h  B hl
        have o_M16 := B.2.2
        refine lv_aload_n C.1 C.2.1 dX7_goInsert_156 rfl (lv_at hl 1 rfl) ?_
        refine lv_iload_n C.1 C.2.1 dX7_goInsert_157 rfl (lv_at hl 2 rfl) ?_
        refine lv_iload_n C.1 C.2.1 dX7_goInsert_158 rfl (lv_at hl 3 rfl) ?_
        refine lv_iload_n C.1 C.2.1 dX7_goInsert_159 rfl (lv_at hl 4 rfl) ?_
        refine lv_iload C.1 C.2.1 dX7_goInsert_160 (lv_at hl 5 rfl) ?_
        refine cl_X7_numberAtCell C hl.1 B q_841 ⟨Nat.le_of_ble_eq_true rfl, Nat.le_of_ble_eq_true rfl⟩ ⟨Nat.zero_le _, Nat.zero_le _⟩ (Nat.le_of_ble_eq_true rfl) r_a2 r_a3 r_a4 h dX7_goInsert_162 (fun x17 r_x17 _ _ h B => ?_)
        refine lv_iload C.1 C.2.1 dX7_goInsert_165 (lv_at hl 6 rfl) ?_
        refine cl_X7_lays C hl.1 B q_760 ⟨Nat.le_of_ble_eq_true rfl, Nat.le_of_ble_eq_true rfl⟩ ⟨Nat.zero_le _, Nat.zero_le _⟩ (Nat.le_of_ble_eq_true rfl) k_o r_a1 r_x17 r_a5 h dX7_goInsert_167 (fun M18 _ _ h B => ?_)
        have o_M18 := B.2.2
        refine lv_aload_n C.1 C.2.1 dX7_goInsert_170 rfl (lv_at hl 1 rfl) ?_
        refine lv_iload_n C.1 C.2.1 dX7_goInsert_171 rfl (lv_at hl 2 rfl) ?_
        refine lv_iload_n C.1 C.2.1 dX7_goInsert_172 rfl (lv_at hl 3 rfl) ?_
        refine lv_iload_n C.1 C.2.1 dX7_goInsert_173 rfl (lv_at hl 4 rfl) ?_
        refine cl_X7_subsAt C hl.1 B q_827 ⟨Nat.le_of_ble_eq_true rfl, Nat.le_of_ble_eq_true rfl⟩ ⟨Nat.zero_le _, Nat.zero_le _⟩ (Nat.le_of_ble_eq_true rfl) r_a2 r_a3 h dX7_goInsert_174 (fun x19 r_x19 _ _ h B => ?_)
        refine lv_iload C.1 C.2.1 dX7_goInsert_177 (lv_at hl 0 rfl) ?_
        refine jr_iconst C dX7_goInsert_179 ?_
        refine jr_iadd C dX7_goInsert_180 ?_
        refine cl_X7_lays C hl.1 B q_760 ⟨Nat.le_of_ble_eq_true rfl, Nat.le_of_ble_eq_true rfl⟩ ⟨Nat.zero_le _, Nat.zero_le _⟩ (Nat.le_of_ble_eq_true rfl) k_o r_a1 r_x19 (jW_R _) h dX7_goInsert_181 (fun M20 _ _ h B => ?_)
        have o_M20 := B.2.2
        refine lv_iload C.1 C.2.1 dX7_goInsert_184 (lv_at hl 0 rfl) ?_
        refine jr_iconst C dX7_goInsert_186 ?_
        refine jr_iadd C dX7_goInsert_187 ?_
        exact jr_iret C B hr hlocks (jW_R _) h dX7_goInsert_188
      have hL120 : ∀ (n : Nat) (x14 : Int) (M15 : jM) (H : Heap) (locs : List Loc) (ls : Array Slot), lp_X7_goInsert_120 o a1 a2 a3 a4 kx120 n x14 M15 → jR x14 → Hp G M15 s.heap H locs → lv_has ls 9 [(8, .int (jI x14)), (7, .int (jI x13)), (0, .ref (jD G o)), (1, .int (jI a1)), (2, .int (jI a2)), (3, .int (jI a3)), (4, .int (jI a4)), (5, .int (jI a5))] → W p l e (rmm 3 71) s m args below meth c H locs 0 0 (MQ below (qI G k) args s 0 0 (gA G)) (F0 m 120 ls []) := by
        intro n
        induction n with
        | zero => intro x14 M15 H locs ls h; exact (show False from h).elim
        | succ n ih120 =>
          intro x14 M15 H locs ls h r_x14 B hl
          have o_M15 := B.2.2
          rw [lp_X7_goInsert_120] at h
          refine lv_iload C.1 C.2.1 dX7_goInsert_120 (lv_at hl 0 rfl) ?_
          refine lv_iload C.1 C.2.1 dX7_goInsert_122 (lv_at hl 6 rfl) ?_
          refine jr_icmp_le (tgt := 156) C r_x14 r_a4 h dX7_goInsert_124 (by decide) (fun hc124 h => ?_) (fun hc124 h => ?_)
          · exact hkx120 _ _ _ _ h  B (lv_sub hl [1, 2, 3, 4, 5, 6, 7] rfl)
          · refine lv_aload_n C.1 C.2.1 dX7_goInsert_127 rfl (lv_at hl 2 rfl) ?_
            refine lv_iload_n C.1 C.2.1 dX7_goInsert_128 rfl (lv_at hl 3 rfl) ?_
            refine lv_iload_n C.1 C.2.1 dX7_goInsert_129 rfl (lv_at hl 4 rfl) ?_
            refine lv_iload_n C.1 C.2.1 dX7_goInsert_130 rfl (lv_at hl 5 rfl) ?_
            refine lv_iload C.1 C.2.1 dX7_goInsert_131 (lv_at hl 0 rfl) ?_
            refine cl_X7_numberAtCell C hl.1 B q_841 ⟨Nat.le_of_ble_eq_true rfl, Nat.le_of_ble_eq_true rfl⟩ ⟨Nat.zero_le _, Nat.zero_le _⟩ (Nat.le_of_ble_eq_true rfl) r_a2 r_a3 r_x14 h dX7_goInsert_133 (fun x21 r_x21 _ _ h B => ?_)
            refine lv_aload_n C.1 C.2.1 dX7_goInsert_136 rfl (lv_at hl 2 rfl) ?_
            refine lv_iload_n C.1 C.2.1 dX7_goInsert_137 rfl (lv_at hl 3 rfl) ?_
            refine lv_iload_n C.1 C.2.1 dX7_goInsert_138 rfl (lv_at hl 4 rfl) ?_
            refine lv_iload_n C.1 C.2.1 dX7_goInsert_139 rfl (lv_at hl 5 rfl) ?_
            refine lv_iload C.1 C.2.1 dX7_goInsert_140 (lv_at hl 0 rfl) ?_
            refine jr_iconst C dX7_goInsert_142 ?_
            refine jr_isub C dX7_goInsert_143 ?_
            refine cl_X7_numberOf C hl.1 B q_844 ⟨Nat.le_of_ble_eq_true rfl, Nat.le_of_ble_eq_true rfl⟩ ⟨Nat.zero_le _, Nat.zero_le _⟩ (Nat.le_of_ble_eq_true rfl) k_o r_a1 r_a2 r_a3 (jW_R _) h dX7_goInsert_144 (fun x22 r_x22 _ _ h B => ?_)
            refine cl_X7_lays C hl.1 B q_760 ⟨Nat.le_of_ble_eq_true rfl, Nat.le_of_ble_eq_true rfl⟩ ⟨Nat.zero_le _, Nat.zero_le _⟩ (Nat.le_of_ble_eq_true rfl) k_o r_a1 r_x21 r_x22 h dX7_goInsert_147 (fun M23 _ _ h B => ?_)
            have o_M23 := B.2.2
            refine jr_iinc (k := 0) (lv' := fun x24 => [(8, .int (jI x24)), (7, .int (jI x13)), (0, .ref (jD G o)), (1, .int (jI a1)), (2, .int (jI a2)), (3, .int (jI a3)), (4, .int (jI a4)), (5, .int (jI a5))]) C h hl rfl (by decide) (fun _ => rfl) dX7_goInsert_150 (fun x24 h r_x24 ls hl => ?_)
            refine lv_goto (tgt := 120) C.1 C.2.1 dX7_goInsert_153 (by decide) ?_
            exact ih120 _ _ _ _ _ h r_x24 B (lv_sub hl [0, 1, 2, 3, 4, 5, 6, 7] rfl)
      exact hL120 N _ _ _ _ _ h r_x13 B (lv_sub hl [0, 1, 3, 4, 5, 6, 7, 8] rfl)
theorem cl_X7_goInsert {p : Program} {l : Launch} {e : Env} {R : Room} {s : State} {m : MethodId} {args : Array Value} {below : List Frame} {meth : Method} {c : Code} {H : Heap} {locs : List Loc} {cells slots : Nat} {Q : State → Prop} {cc : ByteArray} {nL : Nat} {own : String} {G : jG} {H0 : Heap} {pc idx : Nat} {ls : Array Slot} {rest : List Value} {N : Nat} {M : jM} {o a1 a2 a3 a4 a5 : Int} {k : Int → jM → Prop} (C : Cx G p s args m c cc nL own) (hl : ls.size = nL) (B : Hp G M H0 H locs) (q1 : Cond.methodLink own idx yX7_goInsert ∈ tb) (hR : (rmm 3 71).frames + 1 ≤ R.frames ∧ 8 + (9 + 11) + (rmm 3 71).locals ≤ R.locals) (hcs : cells ≤ R.cells ∧ slots ≤ R.slots) (hW : (rest.map fun v => v.category).sum ≤ 8) (k_o : jK o = 8) (r_a1 : jR a1) (r_a2 : jR a2) (r_a3 : jR a3) (r_a4 : jR a4) (r_a5 : jR a5) (h : w_X7_goInsert N M o a1 a2 a3 a4 a5 k) (hdg : decode cc pc = .ok (.invokevirtual idx, 3)) (kk : ∀ (r : Int) (M' : jM), jR r → ∀ (H1 : Heap) (locs1 : List Loc), k r M' → Hp G M' H0 H1 locs1 → W p l e R s m args below meth c H1 locs1 cells slots Q (F0 m (pc + 3) ls (.int (jI r) :: rest))) : W p l e R s m args below meth c H locs cells slots Q (F0 m pc ls (.int (jI a5) :: .int (jI a4) :: .int (jI a3) :: .int (jI a2) :: .int (jI a1) :: .ref (jD G o) :: rest)) :=
  jr_callI B (jr_runV (o := o) (As := [.int (jI a1), .int (jI a2), .int (jI a3), .int (jI a4), .int (jI a5)]) (n := 5) C hl B (m_X7_goInsert B.2.2 k_o r_a1 r_a2 r_a3 r_a4 r_a5 h) (jE8 k_o) (by omega) rfl q1 q_835 qs_38 q_836 q_8 ⟨by decide, by decide, by decide +kernel⟩ rfl ⟨rfl, rfl⟩ hR hcs rfl hW hdg) (fun r M' H1 locs1 hr hk B1 => kk r M' hr H1 locs1 hk B1)
def lp_X7_goRemove_38 (o : Int) (a1 : Int) (a2 : Int) (a3 : Int) (x1 : Int) (kx38 : jM → Prop) : Nat → Int → jM → Prop
  | 0, _, _ => False
  | n + 1, x6, M7 => (if x6 < 4 then (w_X7_numberAtCell a2 a3 x6 (fun x12 => (if (jW (x6 + 1)) < x1 then (w_X7_numberOf M7 o a1 a2 a3 (jW (x6 + 1)) (fun x13 => (w_X7_lays M7 o a1 x12 x13 (fun M14 => (jL (jW (x6 + 1)) (fun x15 => (lp_X7_goRemove_38 o a1 a2 a3 x1 kx38 n x15 M14))))))) else (w_X7_lays M7 o a1 x12 0 (fun M16 => (jL (jW (x6 + 1)) (fun x17 => (lp_X7_goRemove_38 o a1 a2 a3 x1 kx38 n x17 M16)))))))) else (kx38 M7))
def w_X7_goRemove (N : Nat) (M : jM) (o : Int) (a1 : Int) (a2 : Int) (a3 : Int) (a4 : Int) (k : Int → jM → Prop) : Prop := (w_X7_subsOf M o a1 a2 a3 (fun x1 => (if a4 < 0 then (w_X7_dropsValue N M o a1 a2 a3 (fun M2 => (w_X7_valuesOf M2 o a1 a2 (fun x3 => (k x3 M2))))) else (if x1 = 1 then (w_X7_dropsValue N M o a1 a2 a3 (fun M4 => (w_X7_valuesOf M4 o a1 a2 (fun x5 => (k x5 M4))))) else (lp_X7_goRemove_38 o a1 a2 a3 x1 (fun (M8 : jM) => (w_X7_subsAt a2 a3 (fun x9 => (w_X7_lays M8 o a1 x9 (jW (x1 - 1)) (fun M10 => (w_X7_valuesOf M10 o a1 a2 (fun x11 => (k x11 M10)))))))) N a4 M)))))
set_option maxHeartbeats 4000000 in
set_option maxRecDepth 100000 in
theorem m_X7_goRemove {l : Launch} {G : jG} {N : Nat} {M : jM} {o a1 a2 a3 a4 : Int} {k : Int → jM → Prop} (o_M : jOK M) (k_o : jK o = 8) (r_a1 : jR a1) (r_a2 : jR a2) (r_a3 : jR a3) (r_a4 : jR a4) (h : w_X7_goRemove N M o a1 a2 a3 a4 k) : Met l yX7_goRemove (wsG yX7_goRemove cX7_goRemove 7 (some .int)) (rmm 4 96) (jPc G M [.ref (jD G o), .int (jI a1), .int (jI a2), .int (jI a3), .int (jI a4)]) (qI G k) 0 0 (gA G) := by
  refine jm_start RX7 rfl (by decide) (Nat.le_of_ble_eq_true rfl) o_M ?_
  intro p e s m args below meth c ls C hr hlocks hl B
  have hl : lv_has ls 7 [(0, .ref (jD G o)), (1, .int (jI a1)), (2, .int (jI a2)), (3, .int (jI a3)), (4, .int (jI a4))] := hl
  unfold w_X7_goRemove at h
  refine lv_aload_n C.1 C.2.1 dX7_goRemove_0 rfl (lv_at hl 0 rfl) ?_
  refine lv_iload_n C.1 C.2.1 dX7_goRemove_1 rfl (lv_at hl 1 rfl) ?_
  refine lv_iload_n C.1 C.2.1 dX7_goRemove_2 rfl (lv_at hl 2 rfl) ?_
  refine lv_iload_n C.1 C.2.1 dX7_goRemove_3 rfl (lv_at hl 3 rfl) ?_
  refine cl_X7_subsOf C hl.1 B q_823 ⟨Nat.le_of_ble_eq_true rfl, Nat.le_of_ble_eq_true rfl⟩ ⟨Nat.zero_le _, Nat.zero_le _⟩ (Nat.le_of_ble_eq_true rfl) k_o r_a1 r_a2 r_a3 h dX7_goRemove_4 (fun x1 r_x1 _ _ h B => ?_)
  refine lv_istore (lv' := [(5, .int (jI x1)), (0, .ref (jD G o)), (1, .int (jI a1)), (2, .int (jI a2)), (3, .int (jI a3)), (4, .int (jI a4))]) C.1 C.2.1 dX7_goRemove_7 hl (by decide) rfl (fun ls hl => ?_)
  refine lv_iload C.1 C.2.1 dX7_goRemove_9 (lv_at hl 5 rfl) ?_
  refine jr_if_lt (tgt := 20) C r_a4 h dX7_goRemove_11 (by decide) (fun hc11 h => ?_) (fun hc11 h => ?_)
  · refine lv_aload_n C.1 C.2.1 dX7_goRemove_20 rfl (lv_at hl 1 rfl) ?_
    refine lv_iload_n C.1 C.2.1 dX7_goRemove_21 rfl (lv_at hl 2 rfl) ?_
    refine lv_iload_n C.1 C.2.1 dX7_goRemove_22 rfl (lv_at hl 3 rfl) ?_
    refine lv_iload_n C.1 C.2.1 dX7_goRemove_23 rfl (lv_at hl 4 rfl) ?_
    refine cl_X7_dropsValue C hl.1 B q_868 ⟨Nat.le_of_ble_eq_true rfl, Nat.le_of_ble_eq_true rfl⟩ ⟨Nat.zero_le _, Nat.zero_le _⟩ (Nat.le_of_ble_eq_true rfl) k_o r_a1 r_a2 r_a3 h dX7_goRemove_24 (fun M2 _ _ h B => ?_)
    have o_M2 := B.2.2
    refine lv_aload_n C.1 C.2.1 dX7_goRemove_27 rfl (lv_at hl 1 rfl) ?_
    refine lv_iload_n C.1 C.2.1 dX7_goRemove_28 rfl (lv_at hl 2 rfl) ?_
    refine lv_iload_n C.1 C.2.1 dX7_goRemove_29 rfl (lv_at hl 3 rfl) ?_
    refine cl_X7_valuesOf C hl.1 B q_815 ⟨Nat.le_of_ble_eq_true rfl, Nat.le_of_ble_eq_true rfl⟩ ⟨Nat.zero_le _, Nat.zero_le _⟩ (Nat.le_of_ble_eq_true rfl) k_o r_a1 r_a2 h dX7_goRemove_30 (fun x3 r_x3 _ _ h B => ?_)
    exact jr_iret C B hr hlocks r_x3 h dX7_goRemove_33
  · refine lv_iload C.1 C.2.1 dX7_goRemove_14 (lv_at hl 0 rfl) ?_
    refine jr_iconst C dX7_goRemove_16 ?_
    refine jr_icmp_ne (tgt := 34) C r_x1 (jkc rfl) h dX7_goRemove_17 (by decide) (fun hc17 h => ?_) (fun hc17 h => ?_)
    · refine lv_aload_n C.1 C.2.1 dX7_goRemove_20 rfl (lv_at hl 1 rfl) ?_
      refine lv_iload_n C.1 C.2.1 dX7_goRemove_21 rfl (lv_at hl 2 rfl) ?_
      refine lv_iload_n C.1 C.2.1 dX7_goRemove_22 rfl (lv_at hl 3 rfl) ?_
      refine lv_iload_n C.1 C.2.1 dX7_goRemove_23 rfl (lv_at hl 4 rfl) ?_
      refine cl_X7_dropsValue C hl.1 B q_868 ⟨Nat.le_of_ble_eq_true rfl, Nat.le_of_ble_eq_true rfl⟩ ⟨Nat.zero_le _, Nat.zero_le _⟩ (Nat.le_of_ble_eq_true rfl) k_o r_a1 r_a2 r_a3 h dX7_goRemove_24 (fun M4 _ _ h B => ?_)
      have o_M4 := B.2.2
      refine lv_aload_n C.1 C.2.1 dX7_goRemove_27 rfl (lv_at hl 1 rfl) ?_
      refine lv_iload_n C.1 C.2.1 dX7_goRemove_28 rfl (lv_at hl 2 rfl) ?_
      refine lv_iload_n C.1 C.2.1 dX7_goRemove_29 rfl (lv_at hl 3 rfl) ?_
      refine cl_X7_valuesOf C hl.1 B q_815 ⟨Nat.le_of_ble_eq_true rfl, Nat.le_of_ble_eq_true rfl⟩ ⟨Nat.zero_le _, Nat.zero_le _⟩ (Nat.le_of_ble_eq_true rfl) k_o r_a1 r_a2 h dX7_goRemove_30 (fun x5 r_x5 _ _ h B => ?_)
      exact jr_iret C B hr hlocks r_x5 h dX7_goRemove_33
    · refine lv_iload C.1 C.2.1 dX7_goRemove_34 (lv_at hl 5 rfl) ?_
      refine lv_istore (lv' := [(6, .int (jI a4)), (5, .int (jI x1)), (0, .ref (jD G o)), (1, .int (jI a1)), (2, .int (jI a2)), (3, .int (jI a3)), (4, .int (jI a4))]) C.1 C.2.1 dX7_goRemove_36 hl (by decide) rfl (fun ls hl => ?_)
      obtain ⟨kx38, hkx38, h⟩ : ∃ kx38 : jM → Prop, (∀ (M8 : jM) (H : Heap) (locs : List Loc) (ls : Array Slot), kx38 M8 → Hp G M8 s.heap H locs → lv_has ls 7 [(5, .int (jI x1)), (0, .ref (jD G o)), (1, .int (jI a1)), (2, .int (jI a2)), (3, .int (jI a3))] → W p l e (rmm 4 96) s m args below meth c H locs 0 0 (MQ below (qI G k) args s 0 0 (gA G)) (F0 m 86 ls [])) ∧ lp_X7_goRemove_38 o a1 a2 a3 x1 kx38 N a4 M := by
        refine ⟨_, ?_, h⟩
        intro M8 H locs ls h  B hl
        have o_M8 := B.2.2
        refine lv_aload_n C.1 C.2.1 dX7_goRemove_86 rfl (lv_at hl 1 rfl) ?_
        refine lv_iload_n C.1 C.2.1 dX7_goRemove_87 rfl (lv_at hl 2 rfl) ?_
        refine lv_iload_n C.1 C.2.1 dX7_goRemove_88 rfl (lv_at hl 3 rfl) ?_
        refine lv_iload_n C.1 C.2.1 dX7_goRemove_89 rfl (lv_at hl 4 rfl) ?_
        refine cl_X7_subsAt C hl.1 B q_827 ⟨Nat.le_of_ble_eq_true rfl, Nat.le_of_ble_eq_true rfl⟩ ⟨Nat.zero_le _, Nat.zero_le _⟩ (Nat.le_of_ble_eq_true rfl) r_a2 r_a3 h dX7_goRemove_90 (fun x9 r_x9 _ _ h B => ?_)
        refine lv_iload C.1 C.2.1 dX7_goRemove_93 (lv_at hl 0 rfl) ?_
        refine jr_iconst C dX7_goRemove_95 ?_
        refine jr_isub C dX7_goRemove_96 ?_
        refine cl_X7_lays C hl.1 B q_760 ⟨Nat.le_of_ble_eq_true rfl, Nat.le_of_ble_eq_true rfl⟩ ⟨Nat.zero_le _, Nat.zero_le _⟩ (Nat.le_of_ble_eq_true rfl) k_o r_a1 r_x9 (jW_R _) h dX7_goRemove_97 (fun M10 _ _ h B => ?_)
        have o_M10 := B.2.2
        refine lv_aload_n C.1 C.2.1 dX7_goRemove_100 rfl (lv_at hl 1 rfl) ?_
        refine lv_iload_n C.1 C.2.1 dX7_goRemove_101 rfl (lv_at hl 2 rfl) ?_
        refine lv_iload_n C.1 C.2.1 dX7_goRemove_102 rfl (lv_at hl 3 rfl) ?_
        refine cl_X7_valuesOf C hl.1 B q_815 ⟨Nat.le_of_ble_eq_true rfl, Nat.le_of_ble_eq_true rfl⟩ ⟨Nat.zero_le _, Nat.zero_le _⟩ (Nat.le_of_ble_eq_true rfl) k_o r_a1 r_a2 h dX7_goRemove_103 (fun x11 r_x11 _ _ h B => ?_)
        exact jr_iret C B hr hlocks r_x11 h dX7_goRemove_106
      have hL38 : ∀ (n : Nat) (x6 : Int) (M7 : jM) (H : Heap) (locs : List Loc) (ls : Array Slot), lp_X7_goRemove_38 o a1 a2 a3 x1 kx38 n x6 M7 → jR x6 → Hp G M7 s.heap H locs → lv_has ls 7 [(6, .int (jI x6)), (5, .int (jI x1)), (0, .ref (jD G o)), (1, .int (jI a1)), (2, .int (jI a2)), (3, .int (jI a3))] → W p l e (rmm 4 96) s m args below meth c H locs 0 0 (MQ below (qI G k) args s 0 0 (gA G)) (F0 m 38 ls []) := by
        intro n
        induction n with
        | zero => intro x6 M7 H locs ls h; exact (show False from h).elim
        | succ n ih38 =>
          intro x6 M7 H locs ls h r_x6 B hl
          have o_M7 := B.2.2
          rw [lp_X7_goRemove_38] at h
          refine lv_iload C.1 C.2.1 dX7_goRemove_38 (lv_at hl 0 rfl) ?_
          refine jr_iconst C dX7_goRemove_40 ?_
          refine jr_icmp_ge (tgt := 86) C r_x6 (jkc rfl) h dX7_goRemove_41 (by decide) (fun hc41 h => ?_) (fun hc41 h => ?_)
          · refine lv_aload_n C.1 C.2.1 dX7_goRemove_44 rfl (lv_at hl 2 rfl) ?_
            refine lv_iload_n C.1 C.2.1 dX7_goRemove_45 rfl (lv_at hl 3 rfl) ?_
            refine lv_iload_n C.1 C.2.1 dX7_goRemove_46 rfl (lv_at hl 4 rfl) ?_
            refine lv_iload_n C.1 C.2.1 dX7_goRemove_47 rfl (lv_at hl 5 rfl) ?_
            refine lv_iload C.1 C.2.1 dX7_goRemove_48 (lv_at hl 0 rfl) ?_
            refine cl_X7_numberAtCell C hl.1 B q_841 ⟨Nat.le_of_ble_eq_true rfl, Nat.le_of_ble_eq_true rfl⟩ ⟨Nat.zero_le _, Nat.zero_le _⟩ (Nat.le_of_ble_eq_true rfl) r_a2 r_a3 r_x6 h dX7_goRemove_50 (fun x12 r_x12 _ _ h B => ?_)
            refine lv_iload C.1 C.2.1 dX7_goRemove_53 (lv_at hl 0 rfl) ?_
            refine jr_iconst C dX7_goRemove_55 ?_
            refine jr_iadd C dX7_goRemove_56 ?_
            refine lv_iload C.1 C.2.1 dX7_goRemove_57 (lv_at hl 1 rfl) ?_
            refine jr_icmp_ge (tgt := 76) C (jW_R _) r_x1 h dX7_goRemove_59 (by decide) (fun hc59 h => ?_) (fun hc59 h => ?_)
            · refine lv_aload_n C.1 C.2.1 dX7_goRemove_62 rfl (lv_at hl 2 rfl) ?_
              refine lv_iload_n C.1 C.2.1 dX7_goRemove_63 rfl (lv_at hl 3 rfl) ?_
              refine lv_iload_n C.1 C.2.1 dX7_goRemove_64 rfl (lv_at hl 4 rfl) ?_
              refine lv_iload_n C.1 C.2.1 dX7_goRemove_65 rfl (lv_at hl 5 rfl) ?_
              refine lv_iload C.1 C.2.1 dX7_goRemove_66 (lv_at hl 0 rfl) ?_
              refine jr_iconst C dX7_goRemove_68 ?_
              refine jr_iadd C dX7_goRemove_69 ?_
              refine cl_X7_numberOf C hl.1 B q_844 ⟨Nat.le_of_ble_eq_true rfl, Nat.le_of_ble_eq_true rfl⟩ ⟨Nat.zero_le _, Nat.zero_le _⟩ (Nat.le_of_ble_eq_true rfl) k_o r_a1 r_a2 r_a3 (jW_R _) h dX7_goRemove_70 (fun x13 r_x13 _ _ h B => ?_)
              refine lv_goto (tgt := 77) C.1 C.2.1 dX7_goRemove_73 (by decide) ?_
              refine cl_X7_lays C hl.1 B q_760 ⟨Nat.le_of_ble_eq_true rfl, Nat.le_of_ble_eq_true rfl⟩ ⟨Nat.zero_le _, Nat.zero_le _⟩ (Nat.le_of_ble_eq_true rfl) k_o r_a1 r_x12 r_x13 h dX7_goRemove_77 (fun M14 _ _ h B => ?_)
              have o_M14 := B.2.2
              refine jr_iinc (k := 0) (lv' := fun x15 => [(6, .int (jI x15)), (5, .int (jI x1)), (0, .ref (jD G o)), (1, .int (jI a1)), (2, .int (jI a2)), (3, .int (jI a3))]) C h hl rfl (by decide) (fun _ => rfl) dX7_goRemove_80 (fun x15 h r_x15 ls hl => ?_)
              refine lv_goto (tgt := 38) C.1 C.2.1 dX7_goRemove_83 (by decide) ?_
              exact ih38 _ _ _ _ _ h r_x15 B (lv_sub hl [0, 1, 2, 3, 4, 5] rfl)
            · refine jr_iconst C dX7_goRemove_76 ?_
              refine cl_X7_lays C hl.1 B q_760 ⟨Nat.le_of_ble_eq_true rfl, Nat.le_of_ble_eq_true rfl⟩ ⟨Nat.zero_le _, Nat.zero_le _⟩ (Nat.le_of_ble_eq_true rfl) k_o r_a1 r_x12 (jkc rfl) h dX7_goRemove_77 (fun M16 _ _ h B => ?_)
              have o_M16 := B.2.2
              refine jr_iinc (k := 0) (lv' := fun x17 => [(6, .int (jI x17)), (5, .int (jI x1)), (0, .ref (jD G o)), (1, .int (jI a1)), (2, .int (jI a2)), (3, .int (jI a3))]) C h hl rfl (by decide) (fun _ => rfl) dX7_goRemove_80 (fun x17 h r_x17 ls hl => ?_)
              refine lv_goto (tgt := 38) C.1 C.2.1 dX7_goRemove_83 (by decide) ?_
              exact ih38 _ _ _ _ _ h r_x17 B (lv_sub hl [0, 1, 2, 3, 4, 5] rfl)
          · exact hkx38 _ _ _ _ h  B (lv_sub hl [1, 2, 3, 4, 5] rfl)
      exact hL38 N _ _ _ _ _ h r_a4 B (lv_sub hl [0, 1, 2, 3, 4, 5] rfl)
theorem cl_X7_goRemove {p : Program} {l : Launch} {e : Env} {R : Room} {s : State} {m : MethodId} {args : Array Value} {below : List Frame} {meth : Method} {c : Code} {H : Heap} {locs : List Loc} {cells slots : Nat} {Q : State → Prop} {cc : ByteArray} {nL : Nat} {own : String} {G : jG} {H0 : Heap} {pc idx : Nat} {ls : Array Slot} {rest : List Value} {N : Nat} {M : jM} {o a1 a2 a3 a4 : Int} {k : Int → jM → Prop} (C : Cx G p s args m c cc nL own) (hl : ls.size = nL) (B : Hp G M H0 H locs) (q1 : Cond.methodLink own idx yX7_goRemove ∈ tb) (hR : (rmm 4 96).frames + 1 ≤ R.frames ∧ 8 + (7 + 11) + (rmm 4 96).locals ≤ R.locals) (hcs : cells ≤ R.cells ∧ slots ≤ R.slots) (hW : (rest.map fun v => v.category).sum ≤ 8) (k_o : jK o = 8) (r_a1 : jR a1) (r_a2 : jR a2) (r_a3 : jR a3) (r_a4 : jR a4) (h : w_X7_goRemove N M o a1 a2 a3 a4 k) (hdg : decode cc pc = .ok (.invokevirtual idx, 3)) (kk : ∀ (r : Int) (M' : jM), jR r → ∀ (H1 : Heap) (locs1 : List Loc), k r M' → Hp G M' H0 H1 locs1 → W p l e R s m args below meth c H1 locs1 cells slots Q (F0 m (pc + 3) ls (.int (jI r) :: rest))) : W p l e R s m args below meth c H locs cells slots Q (F0 m pc ls (.int (jI a4) :: .int (jI a3) :: .int (jI a2) :: .int (jI a1) :: .ref (jD G o) :: rest)) :=
  jr_callI B (jr_runV (o := o) (As := [.int (jI a1), .int (jI a2), .int (jI a3), .int (jI a4)]) (n := 4) C hl B (m_X7_goRemove B.2.2 k_o r_a1 r_a2 r_a3 r_a4 h) (jE8 k_o) (by omega) rfl q1 q_866 qs_43 q_867 q_8 ⟨by decide, by decide, by decide +kernel⟩ rfl ⟨rfl, rfl⟩ hR hcs rfl hW hdg) (fun r M' H1 locs1 hr hk B1 => kk r M' hr H1 locs1 hk B1)
def lp_X7_inLine_5 (o : Int) (a1 : Int) (a2 : Int) (M : jM) (kx5 : Int → Prop) : Nat → Int → Int → Prop
  | 0, _, _ => False
  | n + 1, x1, x2 => (if x2 < 4 then (jB (jW (1 + x2)) 1115 ∧ (if (M (o + 1) (jW (1 + x2))) = 1 then (w_X7_hasValue M o a1 x2 a2 (fun x5 => (if x5 = 0 then (jL (jW (x1 + 0)) (fun x6 => (jL (jW (x2 + 1)) (fun x7 => (lp_X7_inLine_5 o a1 a2 M kx5 n x6 x7))))) else (jL (jW (x1 + 1)) (fun x8 => (jL (jW (x2 + 1)) (fun x9 => (lp_X7_inLine_5 o a1 a2 M kx5 n x8 x9)))))))) else (jL (jW (x1 + 0)) (fun x10 => (jL (jW (x2 + 1)) (fun x11 => (lp_X7_inLine_5 o a1 a2 M kx5 n x10 x11))))))) else (kx5 x1))
def w_X7_inLine (N : Nat) (M : jM) (o : Int) (a1 : Int) (a2 : Int) (k : Int → Prop) : Prop := (lp_X7_inLine_5 o a1 a2 M (fun (x3 : Int) => (k x3)) N 0 0)
set_option maxHeartbeats 4000000 in
set_option maxRecDepth 100000 in
theorem m_X7_inLine {l : Launch} {G : jG} {N : Nat} {M : jM} {o a1 a2 : Int} {k : Int → Prop} (o_M : jOK M) (k_o : jK o = 8) (r_a1 : jR a1) (r_a2 : jR a2) (h : w_X7_inLine N M o a1 a2 k) : Met l yX7_inLine (wsG yX7_inLine cX7_inLine 5 (some .int)) (rmm 3 67) (jPc G M [.ref (jD G o), .int (jI a1), .int (jI a2)]) (qI G (fun r M' => M' = M ∧ k r)) 0 0 (gA G) := by
  refine jm_start RX7 rfl (by decide) (Nat.le_of_ble_eq_true rfl) o_M ?_
  intro p e s m args below meth c ls C hr hlocks hl B
  have hl : lv_has ls 5 [(0, .ref (jD G o)), (1, .int (jI a1)), (2, .int (jI a2))] := hl
  unfold w_X7_inLine at h
  refine jr_iconst C dX7_inLine_0 ?_
  refine lv_istore_n (lv' := [(3, .int (jI 0)), (0, .ref (jD G o)), (1, .int (jI a1)), (2, .int (jI a2))]) C.1 C.2.1 dX7_inLine_1 rfl hl (by decide) rfl (fun ls hl => ?_)
  refine jr_iconst C dX7_inLine_2 ?_
  refine lv_istore (lv' := [(4, .int (jI 0)), (3, .int (jI 0)), (0, .ref (jD G o)), (1, .int (jI a1)), (2, .int (jI a2))]) C.1 C.2.1 dX7_inLine_3 hl (by decide) rfl (fun ls hl => ?_)
  obtain ⟨kx5, hkx5, h⟩ : ∃ kx5 : Int → Prop, (∀ (x3 : Int) (H : Heap) (locs : List Loc) (ls : Array Slot), kx5 x3 → jR x3 → Hp G M s.heap H locs → lv_has ls 5 [(3, .int (jI x3))] → W p l e (rmm 3 67) s m args below meth c H locs 0 0 (MQ below (qI G (fun r M' => M' = M ∧ k r)) args s 0 0 (gA G)) (F0 m 49 ls [])) ∧ lp_X7_inLine_5 o a1 a2 M kx5 N 0 0 := by
    refine ⟨_, ?_, h⟩
    intro x3 H locs ls h r_x3 B hl
    refine lv_iload_n C.1 C.2.1 dX7_inLine_49 rfl (lv_at hl 0 rfl) ?_
    exact jr_iret C B hr hlocks r_x3 ⟨rfl, h⟩ dX7_inLine_50
  have hL5 : ∀ (n : Nat) (x1 : Int) (x2 : Int) (H : Heap) (locs : List Loc) (ls : Array Slot), lp_X7_inLine_5 o a1 a2 M kx5 n x1 x2 → jR x1 → jR x2 → Hp G M s.heap H locs → lv_has ls 5 [(3, .int (jI x1)), (4, .int (jI x2)), (0, .ref (jD G o)), (1, .int (jI a1)), (2, .int (jI a2))] → W p l e (rmm 3 67) s m args below meth c H locs 0 0 (MQ below (qI G (fun r M' => M' = M ∧ k r)) args s 0 0 (gA G)) (F0 m 5 ls []) := by
    intro n
    induction n with
    | zero => intro x1 x2 H locs ls h; exact (show False from h).elim
    | succ n ih5 =>
      intro x1 x2 H locs ls h r_x1 r_x2 B hl
      rw [lp_X7_inLine_5] at h
      refine lv_iload C.1 C.2.1 dX7_inLine_5 (lv_at hl 1 rfl) ?_
      refine jr_iconst C dX7_inLine_7 ?_
      refine jr_icmp_ge (tgt := 49) C r_x2 (jkc rfl) h dX7_inLine_8 (by decide) (fun hc8 h => ?_) (fun hc8 h => ?_)
      · refine lv_iload_n C.1 C.2.1 dX7_inLine_11 rfl (lv_at hl 0 rfl) ?_
        refine lv_aload_n C.1 C.2.1 dX7_inLine_12 rfl (lv_at hl 2 rfl) ?_
        refine gf_X7_7 C B k_o dX7_inLine_13 ?_
        refine jr_iconst C dX7_inLine_16 ?_
        refine lv_iload C.1 C.2.1 dX7_inLine_17 (lv_at hl 1 rfl) ?_
        refine jr_iadd C dX7_inLine_19 ?_
        obtain ⟨g4, h⟩ := h
        refine jr_iald C B 1115 (jk1 (ko_X7_0 k_o) rfl) (jk2 (ko_X7_0 k_o) rfl) (jW_R _) g4 dX7_inLine_20 ?_
        refine jr_iconst C dX7_inLine_21 ?_
        refine jr_icmp_ne (tgt := 40) C (o_M (o + 1) (jW (1 + x2))).1 (jkc rfl) h dX7_inLine_22 (by decide) (fun hc22 h => ?_) (fun hc22 h => ?_)
        · refine lv_aload_n C.1 C.2.1 dX7_inLine_25 rfl (lv_at hl 2 rfl) ?_
          refine lv_iload_n C.1 C.2.1 dX7_inLine_26 rfl (lv_at hl 3 rfl) ?_
          refine lv_iload C.1 C.2.1 dX7_inLine_27 (lv_at hl 1 rfl) ?_
          refine lv_iload_n C.1 C.2.1 dX7_inLine_29 rfl (lv_at hl 4 rfl) ?_
          refine cl_X7_hasValue C hl.1 B q_819 ⟨Nat.le_of_ble_eq_true rfl, Nat.le_of_ble_eq_true rfl⟩ ⟨Nat.zero_le _, Nat.zero_le _⟩ (Nat.le_of_ble_eq_true rfl) k_o r_a1 r_x2 r_a2 h dX7_inLine_30 (fun x5 z_x5 _ _ h B => ?_)
          refine jr_if_eq (tgt := 40) C (zR z_x5) h dX7_inLine_33 (by decide) (fun hc33 h => ?_) (fun hc33 h => ?_)
          · refine jr_iconst C dX7_inLine_40 ?_
            refine jr_iadd C dX7_inLine_41 ?_
            refine jr_nm h (jW_R _) (fun x6 h r_x6 => ?_)
            refine lv_istore_n (lv' := [(3, .int (jI x6)), (4, .int (jI x2)), (0, .ref (jD G o)), (1, .int (jI a1)), (2, .int (jI a2))]) C.1 C.2.1 dX7_inLine_42 rfl hl (by decide) rfl (fun ls hl => ?_)
            refine jr_iinc (k := 1) (lv' := fun x7 => [(4, .int (jI x7)), (3, .int (jI x6)), (0, .ref (jD G o)), (1, .int (jI a1)), (2, .int (jI a2))]) C h hl rfl (by decide) (fun _ => rfl) dX7_inLine_43 (fun x7 h r_x7 ls hl => ?_)
            refine lv_goto (tgt := 5) C.1 C.2.1 dX7_inLine_46 (by decide) ?_
            exact ih5 _ _ _ _ _ h r_x6 r_x7 B (lv_sub hl [1, 0, 2, 3, 4] rfl)
          · refine jr_iconst C dX7_inLine_36 ?_
            refine lv_goto (tgt := 41) C.1 C.2.1 dX7_inLine_37 (by decide) ?_
            refine jr_iadd C dX7_inLine_41 ?_
            refine jr_nm h (jW_R _) (fun x8 h r_x8 => ?_)
            refine lv_istore_n (lv' := [(3, .int (jI x8)), (4, .int (jI x2)), (0, .ref (jD G o)), (1, .int (jI a1)), (2, .int (jI a2))]) C.1 C.2.1 dX7_inLine_42 rfl hl (by decide) rfl (fun ls hl => ?_)
            refine jr_iinc (k := 1) (lv' := fun x9 => [(4, .int (jI x9)), (3, .int (jI x8)), (0, .ref (jD G o)), (1, .int (jI a1)), (2, .int (jI a2))]) C h hl rfl (by decide) (fun _ => rfl) dX7_inLine_43 (fun x9 h r_x9 ls hl => ?_)
            refine lv_goto (tgt := 5) C.1 C.2.1 dX7_inLine_46 (by decide) ?_
            exact ih5 _ _ _ _ _ h r_x8 r_x9 B (lv_sub hl [1, 0, 2, 3, 4] rfl)
        · refine jr_iconst C dX7_inLine_40 ?_
          refine jr_iadd C dX7_inLine_41 ?_
          refine jr_nm h (jW_R _) (fun x10 h r_x10 => ?_)
          refine lv_istore_n (lv' := [(3, .int (jI x10)), (4, .int (jI x2)), (0, .ref (jD G o)), (1, .int (jI a1)), (2, .int (jI a2))]) C.1 C.2.1 dX7_inLine_42 rfl hl (by decide) rfl (fun ls hl => ?_)
          refine jr_iinc (k := 1) (lv' := fun x11 => [(4, .int (jI x11)), (3, .int (jI x10)), (0, .ref (jD G o)), (1, .int (jI a1)), (2, .int (jI a2))]) C h hl rfl (by decide) (fun _ => rfl) dX7_inLine_43 (fun x11 h r_x11 ls hl => ?_)
          refine lv_goto (tgt := 5) C.1 C.2.1 dX7_inLine_46 (by decide) ?_
          exact ih5 _ _ _ _ _ h r_x10 r_x11 B (lv_sub hl [1, 0, 2, 3, 4] rfl)
      · exact hkx5 _ _ _ _ h r_x1 B (lv_sub hl [0] rfl)
  exact hL5 N _ _ _ _ _ h (jkc rfl) (jkc rfl) B (lv_sub hl [1, 0, 2, 3, 4] rfl)
theorem cl_X7_inLine {p : Program} {l : Launch} {e : Env} {R : Room} {s : State} {m : MethodId} {args : Array Value} {below : List Frame} {meth : Method} {c : Code} {H : Heap} {locs : List Loc} {cells slots : Nat} {Q : State → Prop} {cc : ByteArray} {nL : Nat} {own : String} {G : jG} {H0 : Heap} {pc idx : Nat} {ls : Array Slot} {rest : List Value} {N : Nat} {M : jM} {o a1 a2 : Int} {k : Int → Prop} (C : Cx G p s args m c cc nL own) (hl : ls.size = nL) (B : Hp G M H0 H locs) (q1 : Cond.methodLink own idx yX7_inLine ∈ tb) (hR : (rmm 3 67).frames + 1 ≤ R.frames ∧ 8 + (5 + 11) + (rmm 3 67).locals ≤ R.locals) (hcs : cells ≤ R.cells ∧ slots ≤ R.slots) (hW : (rest.map fun v => v.category).sum ≤ 8) (k_o : jK o = 8) (r_a1 : jR a1) (r_a2 : jR a2) (h : w_X7_inLine N M o a1 a2 k) (hdg : decode cc pc = .ok (.invokevirtual idx, 3)) (kk : ∀ (r : Int), jR r → ∀ (H1 : Heap) (locs1 : List Loc), k r → Hp G M H0 H1 locs1 → W p l e R s m args below meth c H1 locs1 cells slots Q (F0 m (pc + 3) ls (.int (jI r) :: rest))) : W p l e R s m args below meth c H locs cells slots Q (F0 m pc ls (.int (jI a2) :: .int (jI a1) :: .ref (jD G o) :: rest)) :=
  jr_callI B (jr_runV (o := o) (As := [.int (jI a1), .int (jI a2)]) (n := 2) C hl B (m_X7_inLine B.2.2 k_o r_a1 r_a2 h) (jE8 k_o) (by omega) rfl q1 q_878 qs_45 q_879 q_8 ⟨by decide, by decide, by decide +kernel⟩ rfl ⟨rfl, rfl⟩ hR hcs rfl hW hdg) (fun r M' H1 locs1 hr hk B1 => by obtain ⟨rfl, hk⟩ := hk; exact kk r hr H1 locs1 hk B1)
def w_X7_create (N : Nat) (M : jM) (o : Int) (a1 : Int) (k : Int → jM → Prop) : Prop := (w_X7_begins N M o (fun M1 => (w_X7_goCreate N M1 o a1 (fun x2 M3 => (w_X7_keeps N M3 o x2 (fun x4 M5 => (k x4 M5)))))))
set_option maxHeartbeats 4000000 in
set_option maxRecDepth 100000 in
theorem m_X7_create {l : Launch} {G : jG} {N : Nat} {M : jM} {o a1 : Int} {k : Int → jM → Prop} (o_M : jOK M) (k_o : jK o = 8) (r_a1 : jR a1) (h : w_X7_create N M o a1 k) : Met l yX7_create (wsG yX7_create cX7_create 2 (some .int)) (rmm 3 67) (jPc G M [.ref (jD G o), .int (jI a1)]) (qI G k) 0 0 (gA G) := by
  refine jm_start RX7 rfl (by decide) (Nat.le_of_ble_eq_true rfl) o_M ?_
  intro p e s m args below meth c ls C hr hlocks hl B
  have hl : lv_has ls 2 [(0, .ref (jD G o)), (1, .int (jI a1))] := hl
  unfold w_X7_create at h
  refine lv_aload_n C.1 C.2.1 dX7_create_0 rfl (lv_at hl 0 rfl) ?_
  refine cl_X7_begins C hl.1 B q_734 ⟨Nat.le_of_ble_eq_true rfl, Nat.le_of_ble_eq_true rfl⟩ ⟨Nat.zero_le _, Nat.zero_le _⟩ (Nat.le_of_ble_eq_true rfl) k_o h dX7_create_1 (fun M1 _ _ h B => ?_)
  have o_M1 := B.2.2
  refine lv_aload_n C.1 C.2.1 dX7_create_4 rfl (lv_at hl 0 rfl) ?_
  refine lv_aload_n C.1 C.2.1 dX7_create_5 rfl (lv_at hl 0 rfl) ?_
  refine lv_iload_n C.1 C.2.1 dX7_create_6 rfl (lv_at hl 1 rfl) ?_
  refine cl_X7_goCreate C hl.1 B q_741 ⟨Nat.le_of_ble_eq_true rfl, Nat.le_of_ble_eq_true rfl⟩ ⟨Nat.zero_le _, Nat.zero_le _⟩ (Nat.le_of_ble_eq_true rfl) k_o r_a1 h dX7_create_7 (fun x2 M3 r_x2 _ _ h B => ?_)
  have o_M3 := B.2.2
  refine cl_X7_keeps C hl.1 B q_764 ⟨Nat.le_of_ble_eq_true rfl, Nat.le_of_ble_eq_true rfl⟩ ⟨Nat.zero_le _, Nat.zero_le _⟩ (Nat.le_of_ble_eq_true rfl) k_o r_x2 h dX7_create_10 (fun x4 M5 r_x4 _ _ h B => ?_)
  have o_M5 := B.2.2
  exact jr_iret C B hr hlocks r_x4 h dX7_create_13
theorem cl_X7_create {p : Program} {l : Launch} {e : Env} {R : Room} {s : State} {m : MethodId} {args : Array Value} {below : List Frame} {meth : Method} {c : Code} {H : Heap} {locs : List Loc} {cells slots : Nat} {Q : State → Prop} {cc : ByteArray} {nL : Nat} {own : String} {G : jG} {H0 : Heap} {pc idx : Nat} {ls : Array Slot} {rest : List Value} {N : Nat} {M : jM} {o a1 : Int} {k : Int → jM → Prop} (C : Cx G p s args m c cc nL own) (hl : ls.size = nL) (B : Hp G M H0 H locs) (q1 : Cond.methodLink own idx yX7_create ∈ tb) (hR : (rmm 3 67).frames + 1 ≤ R.frames ∧ 8 + (2 + 11) + (rmm 3 67).locals ≤ R.locals) (hcs : cells ≤ R.cells ∧ slots ≤ R.slots) (hW : (rest.map fun v => v.category).sum ≤ 8) (k_o : jK o = 8) (r_a1 : jR a1) (h : w_X7_create N M o a1 k) (hdg : decode cc pc = .ok (.invokevirtual idx, 3)) (kk : ∀ (r : Int) (M' : jM), jR r → ∀ (H1 : Heap) (locs1 : List Loc), k r M' → Hp G M' H0 H1 locs1 → W p l e R s m args below meth c H1 locs1 cells slots Q (F0 m (pc + 3) ls (.int (jI r) :: rest))) : W p l e R s m args below meth c H locs cells slots Q (F0 m pc ls (.int (jI a1) :: .ref (jD G o) :: rest)) :=
  jr_callI B (jr_runV (o := o) (As := [.int (jI a1)]) (n := 1) C hl B (m_X7_create B.2.2 k_o r_a1 h) (jE8 k_o) (by omega) rfl q1 q_731 q_732 q_733 q_8 ⟨by decide, by decide, by decide +kernel⟩ rfl ⟨rfl, rfl⟩ hR hcs rfl hW hdg) (fun r M' H1 locs1 hr hk B1 => kk r M' hr H1 locs1 hk B1)
def w_X7_delete (N : Nat) (M : jM) (o : Int) (a1 : Int) (a2 : Int) (k : Int → jM → Prop) : Prop := (w_X7_begins N M o (fun M1 => (w_X7_goDelete N M1 o a1 a2 (fun x2 M3 => (w_X7_keeps N M3 o x2 (fun x4 M5 => (k x4 M5)))))))
set_option maxHeartbeats 4000000 in
set_option maxRecDepth 100000 in
theorem m_X7_delete {l : Launch} {G : jG} {N : Nat} {M : jM} {o a1 a2 : Int} {k : Int → jM → Prop} (o_M : jOK M) (k_o : jK o = 8) (r_a1 : jR a1) (r_a2 : jR a2) (h : w_X7_delete N M o a1 a2 k) : Met l yX7_delete (wsG yX7_delete cX7_delete 3 (some .int)) (rmm 4 91) (jPc G M [.ref (jD G o), .int (jI a1), .int (jI a2)]) (qI G k) 0 0 (gA G) := by
  refine jm_start RX7 rfl (by decide) (Nat.le_of_ble_eq_true rfl) o_M ?_
  intro p e s m args below meth c ls C hr hlocks hl B
  have hl : lv_has ls 3 [(0, .ref (jD G o)), (1, .int (jI a1)), (2, .int (jI a2))] := hl
  unfold w_X7_delete at h
  refine lv_aload_n C.1 C.2.1 dX7_delete_0 rfl (lv_at hl 0 rfl) ?_
  refine cl_X7_begins C hl.1 B q_734 ⟨Nat.le_of_ble_eq_true rfl, Nat.le_of_ble_eq_true rfl⟩ ⟨Nat.zero_le _, Nat.zero_le _⟩ (Nat.le_of_ble_eq_true rfl) k_o h dX7_delete_1 (fun M1 _ _ h B => ?_)
  have o_M1 := B.2.2
  refine lv_aload_n C.1 C.2.1 dX7_delete_4 rfl (lv_at hl 0 rfl) ?_
  refine lv_aload_n C.1 C.2.1 dX7_delete_5 rfl (lv_at hl 0 rfl) ?_
  refine lv_iload_n C.1 C.2.1 dX7_delete_6 rfl (lv_at hl 1 rfl) ?_
  refine lv_iload_n C.1 C.2.1 dX7_delete_7 rfl (lv_at hl 2 rfl) ?_
  refine cl_X7_goDelete C hl.1 B q_772 ⟨Nat.le_of_ble_eq_true rfl, Nat.le_of_ble_eq_true rfl⟩ ⟨Nat.zero_le _, Nat.zero_le _⟩ (Nat.le_of_ble_eq_true rfl) k_o r_a1 r_a2 h dX7_delete_8 (fun x2 M3 r_x2 _ _ h B => ?_)
  have o_M3 := B.2.2
  refine cl_X7_keeps C hl.1 B q_764 ⟨Nat.le_of_ble_eq_true rfl, Nat.le_of_ble_eq_true rfl⟩ ⟨Nat.zero_le _, Nat.zero_le _⟩ (Nat.le_of_ble_eq_true rfl) k_o r_x2 h dX7_delete_11 (fun x4 M5 r_x4 _ _ h B => ?_)
  have o_M5 := B.2.2
  exact jr_iret C B hr hlocks r_x4 h dX7_delete_14
theorem cl_X7_delete {p : Program} {l : Launch} {e : Env} {R : Room} {s : State} {m : MethodId} {args : Array Value} {below : List Frame} {meth : Method} {c : Code} {H : Heap} {locs : List Loc} {cells slots : Nat} {Q : State → Prop} {cc : ByteArray} {nL : Nat} {own : String} {G : jG} {H0 : Heap} {pc idx : Nat} {ls : Array Slot} {rest : List Value} {N : Nat} {M : jM} {o a1 a2 : Int} {k : Int → jM → Prop} (C : Cx G p s args m c cc nL own) (hl : ls.size = nL) (B : Hp G M H0 H locs) (q1 : Cond.methodLink own idx yX7_delete ∈ tb) (hR : (rmm 4 91).frames + 1 ≤ R.frames ∧ 8 + (3 + 11) + (rmm 4 91).locals ≤ R.locals) (hcs : cells ≤ R.cells ∧ slots ≤ R.slots) (hW : (rest.map fun v => v.category).sum ≤ 8) (k_o : jK o = 8) (r_a1 : jR a1) (r_a2 : jR a2) (h : w_X7_delete N M o a1 a2 k) (hdg : decode cc pc = .ok (.invokevirtual idx, 3)) (kk : ∀ (r : Int) (M' : jM), jR r → ∀ (H1 : Heap) (locs1 : List Loc), k r M' → Hp G M' H0 H1 locs1 → W p l e R s m args below meth c H1 locs1 cells slots Q (F0 m (pc + 3) ls (.int (jI r) :: rest))) : W p l e R s m args below meth c H locs cells slots Q (F0 m pc ls (.int (jI a2) :: .int (jI a1) :: .ref (jD G o) :: rest)) :=
  jr_callI B (jr_runV (o := o) (As := [.int (jI a1), .int (jI a2)]) (n := 2) C hl B (m_X7_delete B.2.2 k_o r_a1 r_a2 h) (jE8 k_o) (by omega) rfl q1 q_769 q_770 q_771 q_8 ⟨by decide, by decide, by decide +kernel⟩ rfl ⟨rfl, rfl⟩ hR hcs rfl hW hdg) (fun r M' H1 locs1 hr hk B1 => kk r M' hr H1 locs1 hk B1)
def w_X7_lock (N : Nat) (M : jM) (o : Int) (a1 : Int) (a2 : Int) (k : Int → jM → Prop) : Prop := (w_X7_begins N M o (fun M1 => (w_X7_goLock N M1 o a1 a2 (fun x2 M3 => (w_X7_keeps N M3 o x2 (fun x4 M5 => (k x4 M5)))))))
set_option maxHeartbeats 4000000 in
set_option maxRecDepth 100000 in
theorem m_X7_lock {l : Launch} {G : jG} {N : Nat} {M : jM} {o a1 a2 : Int} {k : Int → jM → Prop} (o_M : jOK M) (k_o : jK o = 8) (r_a1 : jR a1) (r_a2 : jR a2) (h : w_X7_lock N M o a1 a2 k) : Met l yX7_lock (wsG yX7_lock cX7_lock 3 (some .int)) (rmm 4 90) (jPc G M [.ref (jD G o), .int (jI a1), .int (jI a2)]) (qI G k) 0 0 (gA G) := by
  refine jm_start RX7 rfl (by decide) (Nat.le_of_ble_eq_true rfl) o_M ?_
  intro p e s m args below meth c ls C hr hlocks hl B
  have hl : lv_has ls 3 [(0, .ref (jD G o)), (1, .int (jI a1)), (2, .int (jI a2))] := hl
  unfold w_X7_lock at h
  refine lv_aload_n C.1 C.2.1 dX7_lock_0 rfl (lv_at hl 0 rfl) ?_
  refine cl_X7_begins C hl.1 B q_734 ⟨Nat.le_of_ble_eq_true rfl, Nat.le_of_ble_eq_true rfl⟩ ⟨Nat.zero_le _, Nat.zero_le _⟩ (Nat.le_of_ble_eq_true rfl) k_o h dX7_lock_1 (fun M1 _ _ h B => ?_)
  have o_M1 := B.2.2
  refine lv_aload_n C.1 C.2.1 dX7_lock_4 rfl (lv_at hl 0 rfl) ?_
  refine lv_aload_n C.1 C.2.1 dX7_lock_5 rfl (lv_at hl 0 rfl) ?_
  refine lv_iload_n C.1 C.2.1 dX7_lock_6 rfl (lv_at hl 1 rfl) ?_
  refine lv_iload_n C.1 C.2.1 dX7_lock_7 rfl (lv_at hl 2 rfl) ?_
  refine cl_X7_goLock C hl.1 B q_792 ⟨Nat.le_of_ble_eq_true rfl, Nat.le_of_ble_eq_true rfl⟩ ⟨Nat.zero_le _, Nat.zero_le _⟩ (Nat.le_of_ble_eq_true rfl) k_o r_a1 r_a2 h dX7_lock_8 (fun x2 M3 r_x2 _ _ h B => ?_)
  have o_M3 := B.2.2
  refine cl_X7_keeps C hl.1 B q_764 ⟨Nat.le_of_ble_eq_true rfl, Nat.le_of_ble_eq_true rfl⟩ ⟨Nat.zero_le _, Nat.zero_le _⟩ (Nat.le_of_ble_eq_true rfl) k_o r_x2 h dX7_lock_11 (fun x4 M5 r_x4 _ _ h B => ?_)
  have o_M5 := B.2.2
  exact jr_iret C B hr hlocks r_x4 h dX7_lock_14
theorem cl_X7_lock {p : Program} {l : Launch} {e : Env} {R : Room} {s : State} {m : MethodId} {args : Array Value} {below : List Frame} {meth : Method} {c : Code} {H : Heap} {locs : List Loc} {cells slots : Nat} {Q : State → Prop} {cc : ByteArray} {nL : Nat} {own : String} {G : jG} {H0 : Heap} {pc idx : Nat} {ls : Array Slot} {rest : List Value} {N : Nat} {M : jM} {o a1 a2 : Int} {k : Int → jM → Prop} (C : Cx G p s args m c cc nL own) (hl : ls.size = nL) (B : Hp G M H0 H locs) (q1 : Cond.methodLink own idx yX7_lock ∈ tb) (hR : (rmm 4 90).frames + 1 ≤ R.frames ∧ 8 + (3 + 11) + (rmm 4 90).locals ≤ R.locals) (hcs : cells ≤ R.cells ∧ slots ≤ R.slots) (hW : (rest.map fun v => v.category).sum ≤ 8) (k_o : jK o = 8) (r_a1 : jR a1) (r_a2 : jR a2) (h : w_X7_lock N M o a1 a2 k) (hdg : decode cc pc = .ok (.invokevirtual idx, 3)) (kk : ∀ (r : Int) (M' : jM), jR r → ∀ (H1 : Heap) (locs1 : List Loc), k r M' → Hp G M' H0 H1 locs1 → W p l e R s m args below meth c H1 locs1 cells slots Q (F0 m (pc + 3) ls (.int (jI r) :: rest))) : W p l e R s m args below meth c H locs cells slots Q (F0 m pc ls (.int (jI a2) :: .int (jI a1) :: .ref (jD G o) :: rest)) :=
  jr_callI B (jr_runV (o := o) (As := [.int (jI a1), .int (jI a2)]) (n := 2) C hl B (m_X7_lock B.2.2 k_o r_a1 r_a2 h) (jE8 k_o) (by omega) rfl q1 q_789 q_790 q_791 q_8 ⟨by decide, by decide, by decide +kernel⟩ rfl ⟨rfl, rfl⟩ hR hcs rfl hW hdg) (fun r M' H1 locs1 hr hk B1 => kk r M' hr H1 locs1 hk B1)
def w_X7_unlock (N : Nat) (M : jM) (o : Int) (a1 : Int) (a2 : Int) (k : Int → jM → Prop) : Prop := (w_X7_begins N M o (fun M1 => (w_X7_goUnlock N M1 o a1 a2 (fun x2 M3 => (w_X7_keeps N M3 o x2 (fun x4 M5 => (k x4 M5)))))))
set_option maxHeartbeats 4000000 in
set_option maxRecDepth 100000 in
theorem m_X7_unlock {l : Launch} {G : jG} {N : Nat} {M : jM} {o a1 a2 : Int} {k : Int → jM → Prop} (o_M : jOK M) (k_o : jK o = 8) (r_a1 : jR a1) (r_a2 : jR a2) (h : w_X7_unlock N M o a1 a2 k) : Met l yX7_unlock (wsG yX7_unlock cX7_unlock 3 (some .int)) (rmm 4 90) (jPc G M [.ref (jD G o), .int (jI a1), .int (jI a2)]) (qI G k) 0 0 (gA G) := by
  refine jm_start RX7 rfl (by decide) (Nat.le_of_ble_eq_true rfl) o_M ?_
  intro p e s m args below meth c ls C hr hlocks hl B
  have hl : lv_has ls 3 [(0, .ref (jD G o)), (1, .int (jI a1)), (2, .int (jI a2))] := hl
  unfold w_X7_unlock at h
  refine lv_aload_n C.1 C.2.1 dX7_unlock_0 rfl (lv_at hl 0 rfl) ?_
  refine cl_X7_begins C hl.1 B q_734 ⟨Nat.le_of_ble_eq_true rfl, Nat.le_of_ble_eq_true rfl⟩ ⟨Nat.zero_le _, Nat.zero_le _⟩ (Nat.le_of_ble_eq_true rfl) k_o h dX7_unlock_1 (fun M1 _ _ h B => ?_)
  have o_M1 := B.2.2
  refine lv_aload_n C.1 C.2.1 dX7_unlock_4 rfl (lv_at hl 0 rfl) ?_
  refine lv_aload_n C.1 C.2.1 dX7_unlock_5 rfl (lv_at hl 0 rfl) ?_
  refine lv_iload_n C.1 C.2.1 dX7_unlock_6 rfl (lv_at hl 1 rfl) ?_
  refine lv_iload_n C.1 C.2.1 dX7_unlock_7 rfl (lv_at hl 2 rfl) ?_
  refine cl_X7_goUnlock C hl.1 B q_804 ⟨Nat.le_of_ble_eq_true rfl, Nat.le_of_ble_eq_true rfl⟩ ⟨Nat.zero_le _, Nat.zero_le _⟩ (Nat.le_of_ble_eq_true rfl) k_o r_a1 r_a2 h dX7_unlock_8 (fun x2 M3 r_x2 _ _ h B => ?_)
  have o_M3 := B.2.2
  refine cl_X7_keeps C hl.1 B q_764 ⟨Nat.le_of_ble_eq_true rfl, Nat.le_of_ble_eq_true rfl⟩ ⟨Nat.zero_le _, Nat.zero_le _⟩ (Nat.le_of_ble_eq_true rfl) k_o r_x2 h dX7_unlock_11 (fun x4 M5 r_x4 _ _ h B => ?_)
  have o_M5 := B.2.2
  exact jr_iret C B hr hlocks r_x4 h dX7_unlock_14
theorem cl_X7_unlock {p : Program} {l : Launch} {e : Env} {R : Room} {s : State} {m : MethodId} {args : Array Value} {below : List Frame} {meth : Method} {c : Code} {H : Heap} {locs : List Loc} {cells slots : Nat} {Q : State → Prop} {cc : ByteArray} {nL : Nat} {own : String} {G : jG} {H0 : Heap} {pc idx : Nat} {ls : Array Slot} {rest : List Value} {N : Nat} {M : jM} {o a1 a2 : Int} {k : Int → jM → Prop} (C : Cx G p s args m c cc nL own) (hl : ls.size = nL) (B : Hp G M H0 H locs) (q1 : Cond.methodLink own idx yX7_unlock ∈ tb) (hR : (rmm 4 90).frames + 1 ≤ R.frames ∧ 8 + (3 + 11) + (rmm 4 90).locals ≤ R.locals) (hcs : cells ≤ R.cells ∧ slots ≤ R.slots) (hW : (rest.map fun v => v.category).sum ≤ 8) (k_o : jK o = 8) (r_a1 : jR a1) (r_a2 : jR a2) (h : w_X7_unlock N M o a1 a2 k) (hdg : decode cc pc = .ok (.invokevirtual idx, 3)) (kk : ∀ (r : Int) (M' : jM), jR r → ∀ (H1 : Heap) (locs1 : List Loc), k r M' → Hp G M' H0 H1 locs1 → W p l e R s m args below meth c H1 locs1 cells slots Q (F0 m (pc + 3) ls (.int (jI r) :: rest))) : W p l e R s m args below meth c H locs cells slots Q (F0 m pc ls (.int (jI a2) :: .int (jI a1) :: .ref (jD G o) :: rest)) :=
  jr_callI B (jr_runV (o := o) (As := [.int (jI a1), .int (jI a2)]) (n := 2) C hl B (m_X7_unlock B.2.2 k_o r_a1 r_a2 h) (jE8 k_o) (by omega) rfl q1 q_801 q_802 q_803 q_8 ⟨by decide, by decide, by decide +kernel⟩ rfl ⟨rfl, rfl⟩ hR hcs rfl hW hdg) (fun r M' H1 locs1 hr hk B1 => kk r M' hr H1 locs1 hk B1)
def w_X7_insert (N : Nat) (M : jM) (o : Int) (a1 : Int) (a2 : Int) (a3 : Int) (a4 : Int) (a5 : Int) (a6 : Int) (k : Int → jM → Prop) : Prop := (w_X7_placeOf N M o a2 (fun x1 => (w_X7_errorOf N M o a1 a2 (fun x2 => (if x2 < 0 then (k (-1000001) M) else (w_X7_isField a3 (fun x3 => (if x3 = 0 then (k (-1000001) M) else (jL (fun (x4 : Int) => (if x4 = 0 then (k (-1000001) M) else (w_X7_isNumber a6 (fun x6 => (if x6 = 0 then (k (-1000002) M) else (w_X7_isBarred M o x1 a1 (fun x7 => (if x7 = 0 then (w_X7_begins N M o (fun M8 => (w_X7_goInsert N M8 o x1 a3 a4 a5 a6 (fun x9 M10 => (w_X7_keeps N M10 o x9 (fun x11 M12 => (k x11 M12))))))) else (k (-1000006) M))))))))) (fun j29_5 => (if a5 = (-1) then (w_X7_valuesOf M o x1 a3 (fun x13 => (w_X7_in a4 0 x13 (fun x14 => (j29_5 x14))))) else (w_X7_hasValue M o x1 a3 a4 (fun x15 => (if x15 = 0 then (j29_5 0) else (w_X7_subsOf M o x1 a3 a4 (fun x16 => (w_X7_in a5 0 x16 (fun x17 => (if x17 = 0 then (j29_5 0) else (j29_5 1))))))))))))))))))))
set_option maxHeartbeats 4000000 in
set_option maxRecDepth 100000 in
theorem m_X7_insert {l : Launch} {G : jG} {N : Nat} {M : jM} {o a1 a2 a3 a4 a5 a6 : Int} {k : Int → jM → Prop} (o_M : jOK M) (k_o : jK o = 8) (r_a1 : jR a1) (r_a2 : jR a2) (r_a3 : jR a3) (r_a4 : jR a4) (r_a5 : jR a5) (r_a6 : jR a6) (h : w_X7_insert N M o a1 a2 a3 a4 a5 a6 k) : Met l yX7_insert (wsG yX7_insert cX7_insert 9 (some .int)) (rmm 4 99) (jPc G M [.ref (jD G o), .int (jI a1), .int (jI a2), .int (jI a3), .int (jI a4), .int (jI a5), .int (jI a6)]) (qI G k) 0 0 (gA G) := by
  refine jm_start RX7 rfl (by decide) (Nat.le_of_ble_eq_true rfl) o_M ?_
  intro p e s m args below meth c ls C hr hlocks hl B
  have hl : lv_has ls 9 [(0, .ref (jD G o)), (1, .int (jI a1)), (2, .int (jI a2)), (3, .int (jI a3)), (4, .int (jI a4)), (5, .int (jI a5)), (6, .int (jI a6))] := hl
  unfold w_X7_insert at h
  refine lv_aload_n C.1 C.2.1 dX7_insert_0 rfl (lv_at hl 0 rfl) ?_
  refine lv_iload_n C.1 C.2.1 dX7_insert_1 rfl (lv_at hl 2 rfl) ?_
  refine cl_X7_placeOf C hl.1 B q_749 ⟨Nat.le_of_ble_eq_true rfl, Nat.le_of_ble_eq_true rfl⟩ ⟨Nat.zero_le _, Nat.zero_le _⟩ (Nat.le_of_ble_eq_true rfl) k_o r_a2 h dX7_insert_2 (fun x1 r_x1 _ _ h B => ?_)
  refine lv_istore (lv' := [(7, .int (jI x1)), (0, .ref (jD G o)), (1, .int (jI a1)), (2, .int (jI a2)), (3, .int (jI a3)), (4, .int (jI a4)), (5, .int (jI a5)), (6, .int (jI a6))]) C.1 C.2.1 dX7_insert_5 hl (by decide) rfl (fun ls hl => ?_)
  refine lv_aload_n C.1 C.2.1 dX7_insert_7 rfl (lv_at hl 1 rfl) ?_
  refine lv_iload_n C.1 C.2.1 dX7_insert_8 rfl (lv_at hl 2 rfl) ?_
  refine lv_iload_n C.1 C.2.1 dX7_insert_9 rfl (lv_at hl 3 rfl) ?_
  refine cl_X7_errorOf C hl.1 B q_776 ⟨Nat.le_of_ble_eq_true rfl, Nat.le_of_ble_eq_true rfl⟩ ⟨Nat.zero_le _, Nat.zero_le _⟩ (Nat.le_of_ble_eq_true rfl) k_o r_a1 r_a2 h dX7_insert_10 (fun x2 r_x2 _ _ h B => ?_)
  refine jr_if_lt (tgt := 23) C r_x2 h dX7_insert_13 (by decide) (fun hc13 h => ?_) (fun hc13 h => ?_)
  · refine jr_ldc (n := -1000001) C q_753 (by decide) dX7_insert_23 ?_
    exact jr_iret C B hr hlocks (jkc rfl) h dX7_insert_25
  · refine lv_iload_n C.1 C.2.1 dX7_insert_16 rfl (lv_at hl 4 rfl) ?_
    refine cl_X7_isField C hl.1 B q_812 ⟨Nat.le_of_ble_eq_true rfl, Nat.le_of_ble_eq_true rfl⟩ ⟨Nat.zero_le _, Nat.zero_le _⟩ (Nat.le_of_ble_eq_true rfl) r_a3 h dX7_insert_17 (fun x3 z_x3 _ _ h B => ?_)
    refine jr_if_ne (tgt := 26) C (zR z_x3) h dX7_insert_20 (by decide) (fun hc20 h => ?_) (fun hc20 h => ?_)
    · refine jr_ldc (n := -1000001) C q_753 (by decide) dX7_insert_23 ?_
      exact jr_iret C B hr hlocks (jkc rfl) h dX7_insert_25
    · refine lv_iload C.1 C.2.1 dX7_insert_26 (lv_at hl 6 rfl) ?_
      refine jr_iconst C dX7_insert_28 ?_
      obtain ⟨j29_5, hj29_5, h⟩ := jx_join (P := fun j29_5 : Int → Prop => ∀ (x4 : Int) (H : Heap) (locs : List Loc) (ls : Array Slot), j29_5 x4 → (x4 = 0 ∨ x4 = 1) → Hp G M s.heap H locs → lv_has ls 9 [(7, .int (jI x1)), (0, .ref (jD G o)), (1, .int (jI a1)), (3, .int (jI a3)), (4, .int (jI a4)), (5, .int (jI a5)), (6, .int (jI a6))] → W p l e (rmm 4 99) s m args below meth c H locs 0 0 (MQ below (qI G k) args s 0 0 (gA G)) (F0 m 83 ls [.int (jI x4)])) h (by
        intro x4 H locs ls h z_x4 B hl
        refine lv_istore (lv' := [(8, .int (jI x4)), (7, .int (jI x1)), (0, .ref (jD G o)), (1, .int (jI a1)), (3, .int (jI a3)), (4, .int (jI a4)), (5, .int (jI a5)), (6, .int (jI a6))]) C.1 C.2.1 dX7_insert_83 hl (by decide) rfl (fun ls hl => ?_)
        refine lv_iload C.1 C.2.1 dX7_insert_85 (lv_at hl 0 rfl) ?_
        refine jr_if_ne (tgt := 93) C (zR z_x4) h dX7_insert_87 (by decide) (fun hc87 h => ?_) (fun hc87 h => ?_)
        · refine jr_ldc (n := -1000001) C q_753 (by decide) dX7_insert_90 ?_
          exact jr_iret C B hr hlocks (jkc rfl) h dX7_insert_92
        · refine lv_iload C.1 C.2.1 dX7_insert_93 (lv_at hl 7 rfl) ?_
          refine cl_X7_isNumber C hl.1 B q_830 ⟨Nat.le_of_ble_eq_true rfl, Nat.le_of_ble_eq_true rfl⟩ ⟨Nat.zero_le _, Nat.zero_le _⟩ (Nat.le_of_ble_eq_true rfl) r_a6 h dX7_insert_95 (fun x6 z_x6 _ _ h B => ?_)
          refine jr_if_ne (tgt := 104) C (zR z_x6) h dX7_insert_98 (by decide) (fun hc98 h => ?_) (fun hc98 h => ?_)
          · refine jr_ldc (n := -1000002) C q_748 (by decide) dX7_insert_101 ?_
            exact jr_iret C B hr hlocks (jkc rfl) h dX7_insert_103
          · refine lv_aload_n C.1 C.2.1 dX7_insert_104 rfl (lv_at hl 2 rfl) ?_
            refine lv_iload C.1 C.2.1 dX7_insert_105 (lv_at hl 1 rfl) ?_
            refine lv_iload_n C.1 C.2.1 dX7_insert_107 rfl (lv_at hl 3 rfl) ?_
            refine cl_X7_isBarred C hl.1 B q_783 ⟨Nat.le_of_ble_eq_true rfl, Nat.le_of_ble_eq_true rfl⟩ ⟨Nat.zero_le _, Nat.zero_le _⟩ (Nat.le_of_ble_eq_true rfl) k_o r_x1 r_a1 h dX7_insert_108 (fun x7 z_x7 _ _ h B => ?_)
            refine jr_if_eq (tgt := 117) C (zR z_x7) h dX7_insert_111 (by decide) (fun hc111 h => ?_) (fun hc111 h => ?_)
            · refine lv_aload_n C.1 C.2.1 dX7_insert_117 rfl (lv_at hl 2 rfl) ?_
              refine cl_X7_begins C hl.1 B q_734 ⟨Nat.le_of_ble_eq_true rfl, Nat.le_of_ble_eq_true rfl⟩ ⟨Nat.zero_le _, Nat.zero_le _⟩ (Nat.le_of_ble_eq_true rfl) k_o h dX7_insert_118 (fun M8 _ _ h B => ?_)
              have o_M8 := B.2.2
              refine lv_aload_n C.1 C.2.1 dX7_insert_121 rfl (lv_at hl 2 rfl) ?_
              refine lv_aload_n C.1 C.2.1 dX7_insert_122 rfl (lv_at hl 2 rfl) ?_
              refine lv_iload C.1 C.2.1 dX7_insert_123 (lv_at hl 1 rfl) ?_
              refine lv_iload_n C.1 C.2.1 dX7_insert_125 rfl (lv_at hl 4 rfl) ?_
              refine lv_iload C.1 C.2.1 dX7_insert_126 (lv_at hl 5 rfl) ?_
              refine lv_iload C.1 C.2.1 dX7_insert_128 (lv_at hl 6 rfl) ?_
              refine lv_iload C.1 C.2.1 dX7_insert_130 (lv_at hl 7 rfl) ?_
              refine cl_X7_goInsert C hl.1 B q_833 ⟨Nat.le_of_ble_eq_true rfl, Nat.le_of_ble_eq_true rfl⟩ ⟨Nat.zero_le _, Nat.zero_le _⟩ (Nat.le_of_ble_eq_true rfl) k_o r_x1 r_a3 r_a4 r_a5 r_a6 h dX7_insert_132 (fun x9 M10 r_x9 _ _ h B => ?_)
              have o_M10 := B.2.2
              refine cl_X7_keeps C hl.1 B q_764 ⟨Nat.le_of_ble_eq_true rfl, Nat.le_of_ble_eq_true rfl⟩ ⟨Nat.zero_le _, Nat.zero_le _⟩ (Nat.le_of_ble_eq_true rfl) k_o r_x9 h dX7_insert_135 (fun x11 M12 r_x11 _ _ h B => ?_)
              have o_M12 := B.2.2
              exact jr_iret C B hr hlocks r_x11 h dX7_insert_138
            · refine jr_ldc (n := -1000006) C q_787 (by decide) dX7_insert_114 ?_
              exact jr_iret C B hr hlocks (jkc rfl) h dX7_insert_116)
      refine jr_icmp_ne (tgt := 48) C r_a5 (jkc rfl) h dX7_insert_29 (by decide) (fun hc29 h => ?_) (fun hc29 h => ?_)
      · refine lv_iload C.1 C.2.1 dX7_insert_32 (lv_at hl 5 rfl) ?_
        refine jr_iconst C dX7_insert_34 ?_
        refine lv_aload_n C.1 C.2.1 dX7_insert_35 rfl (lv_at hl 1 rfl) ?_
        refine lv_iload C.1 C.2.1 dX7_insert_36 (lv_at hl 0 rfl) ?_
        refine lv_iload_n C.1 C.2.1 dX7_insert_38 rfl (lv_at hl 4 rfl) ?_
        refine cl_X7_valuesOf C hl.1 B q_815 ⟨Nat.le_of_ble_eq_true rfl, Nat.le_of_ble_eq_true rfl⟩ ⟨Nat.zero_le _, Nat.zero_le _⟩ (Nat.le_of_ble_eq_true rfl) k_o r_x1 r_a3 h dX7_insert_39 (fun x13 r_x13 _ _ h B => ?_)
        refine cl_X7_in C hl.1 B q_745 ⟨Nat.le_of_ble_eq_true rfl, Nat.le_of_ble_eq_true rfl⟩ ⟨Nat.zero_le _, Nat.zero_le _⟩ (Nat.le_of_ble_eq_true rfl) r_a4 (jkc rfl) r_x13 h dX7_insert_42 (fun x14 z_x14 _ _ h B => ?_)
        refine lv_goto (tgt := 83) C.1 C.2.1 dX7_insert_45 (by decide) ?_
        exact hj29_5 _ _ _ _ h z_x14 B (lv_sub hl [0, 1, 2, 4, 5, 6, 7] rfl)
      · refine lv_aload_n C.1 C.2.1 dX7_insert_48 rfl (lv_at hl 1 rfl) ?_
        refine lv_iload C.1 C.2.1 dX7_insert_49 (lv_at hl 0 rfl) ?_
        refine lv_iload_n C.1 C.2.1 dX7_insert_51 rfl (lv_at hl 4 rfl) ?_
        refine lv_iload C.1 C.2.1 dX7_insert_52 (lv_at hl 5 rfl) ?_
        refine cl_X7_hasValue C hl.1 B q_819 ⟨Nat.le_of_ble_eq_true rfl, Nat.le_of_ble_eq_true rfl⟩ ⟨Nat.zero_le _, Nat.zero_le _⟩ (Nat.le_of_ble_eq_true rfl) k_o r_x1 r_a3 r_a4 h dX7_insert_54 (fun x15 z_x15 _ _ h B => ?_)
        refine jr_if_eq (tgt := 82) C (zR z_x15) h dX7_insert_57 (by decide) (fun hc57 h => ?_) (fun hc57 h => ?_)
        · refine jr_iconst C dX7_insert_82 ?_
          exact hj29_5 _ _ _ _ h (Or.inl rfl) B (lv_sub hl [0, 1, 2, 4, 5, 6, 7] rfl)
        · refine lv_iload C.1 C.2.1 dX7_insert_60 (lv_at hl 6 rfl) ?_
          refine jr_iconst C dX7_insert_62 ?_
          refine lv_aload_n C.1 C.2.1 dX7_insert_63 rfl (lv_at hl 1 rfl) ?_
          refine lv_iload C.1 C.2.1 dX7_insert_64 (lv_at hl 0 rfl) ?_
          refine lv_iload_n C.1 C.2.1 dX7_insert_66 rfl (lv_at hl 4 rfl) ?_
          refine lv_iload C.1 C.2.1 dX7_insert_67 (lv_at hl 5 rfl) ?_
          refine cl_X7_subsOf C hl.1 B q_823 ⟨Nat.le_of_ble_eq_true rfl, Nat.le_of_ble_eq_true rfl⟩ ⟨Nat.zero_le _, Nat.zero_le _⟩ (Nat.le_of_ble_eq_true rfl) k_o r_x1 r_a3 r_a4 h dX7_insert_69 (fun x16 r_x16 _ _ h B => ?_)
          refine cl_X7_in C hl.1 B q_745 ⟨Nat.le_of_ble_eq_true rfl, Nat.le_of_ble_eq_true rfl⟩ ⟨Nat.zero_le _, Nat.zero_le _⟩ (Nat.le_of_ble_eq_true rfl) r_a5 (jkc rfl) r_x16 h dX7_insert_72 (fun x17 z_x17 _ _ h B => ?_)
          refine jr_if_eq (tgt := 82) C (zR z_x17) h dX7_insert_75 (by decide) (fun hc75 h => ?_) (fun hc75 h => ?_)
          · refine jr_iconst C dX7_insert_82 ?_
            exact hj29_5 _ _ _ _ h (Or.inl rfl) B (lv_sub hl [0, 1, 2, 4, 5, 6, 7] rfl)
          · refine jr_iconst C dX7_insert_78 ?_
            refine lv_goto (tgt := 83) C.1 C.2.1 dX7_insert_79 (by decide) ?_
            exact hj29_5 _ _ _ _ h (Or.inr rfl) B (lv_sub hl [0, 1, 2, 4, 5, 6, 7] rfl)
theorem cl_X7_insert {p : Program} {l : Launch} {e : Env} {R : Room} {s : State} {m : MethodId} {args : Array Value} {below : List Frame} {meth : Method} {c : Code} {H : Heap} {locs : List Loc} {cells slots : Nat} {Q : State → Prop} {cc : ByteArray} {nL : Nat} {own : String} {G : jG} {H0 : Heap} {pc idx : Nat} {ls : Array Slot} {rest : List Value} {N : Nat} {M : jM} {o a1 a2 a3 a4 a5 a6 : Int} {k : Int → jM → Prop} (C : Cx G p s args m c cc nL own) (hl : ls.size = nL) (B : Hp G M H0 H locs) (q1 : Cond.methodLink own idx yX7_insert ∈ tb) (hR : (rmm 4 99).frames + 1 ≤ R.frames ∧ 8 + (9 + 11) + (rmm 4 99).locals ≤ R.locals) (hcs : cells ≤ R.cells ∧ slots ≤ R.slots) (hW : (rest.map fun v => v.category).sum ≤ 8) (k_o : jK o = 8) (r_a1 : jR a1) (r_a2 : jR a2) (r_a3 : jR a3) (r_a4 : jR a4) (r_a5 : jR a5) (r_a6 : jR a6) (h : w_X7_insert N M o a1 a2 a3 a4 a5 a6 k) (hdg : decode cc pc = .ok (.invokevirtual idx, 3)) (kk : ∀ (r : Int) (M' : jM), jR r → ∀ (H1 : Heap) (locs1 : List Loc), k r M' → Hp G M' H0 H1 locs1 → W p l e R s m args below meth c H1 locs1 cells slots Q (F0 m (pc + 3) ls (.int (jI r) :: rest))) : W p l e R s m args below meth c H locs cells slots Q (F0 m pc ls (.int (jI a6) :: .int (jI a5) :: .int (jI a4) :: .int (jI a3) :: .int (jI a2) :: .int (jI a1) :: .ref (jD G o) :: rest)) :=
  jr_callI B (jr_runV (o := o) (As := [.int (jI a1), .int (jI a2), .int (jI a3), .int (jI a4), .int (jI a5), .int (jI a6)]) (n := 6) C hl B (m_X7_insert B.2.2 k_o r_a1 r_a2 r_a3 r_a4 r_a5 r_a6 h) (jE8 k_o) (by omega) rfl q1 q_809 q_810 q_811 q_8 ⟨by decide, by decide, by decide +kernel⟩ rfl ⟨rfl, rfl⟩ hR hcs rfl hW hdg) (fun r M' H1 locs1 hr hk B1 => kk r M' hr H1 locs1 hk B1)
def w_X7_change (N : Nat) (M : jM) (o : Int) (a1 : Int) (a2 : Int) (a3 : Int) (a4 : Int) (a5 : Int) (a6 : Int) (k : Int → jM → Prop) : Prop := (w_X7_placeOf N M o a2 (fun x1 => (w_X7_errorOf N M o a1 a2 (fun x2 => (if x2 < 0 then (k (-1000001) M) else (w_X7_isField a3 (fun x3 => (if x3 = 0 then (k (-1000001) M) else (w_X7_hasSub M o x1 a3 a4 a5 (fun x4 => (if x4 = 0 then (k (-1000001) M) else (w_X7_isNumber a6 (fun x5 => (if x5 = 0 then (k (-1000002) M) else (w_X7_isBarred M o x1 a1 (fun x6 => (if x6 = 0 then (w_X7_begins N M o (fun M7 => (w_X7_numberOf M7 o x1 a3 a4 a5 (fun x8 => (w_X7_numberAtCell a3 a4 a5 (fun x9 => (w_X7_lays M7 o x1 x9 a6 (fun M10 => (w_X7_keeps N M10 o x8 (fun x11 M12 => (k x11 M12))))))))))) else (k (-1000006) M))))))))))))))))))
set_option maxHeartbeats 4000000 in
set_option maxRecDepth 100000 in
theorem m_X7_change {l : Launch} {G : jG} {N : Nat} {M : jM} {o a1 a2 a3 a4 a5 a6 : Int} {k : Int → jM → Prop} (o_M : jOK M) (k_o : jK o = 8) (r_a1 : jR a1) (r_a2 : jR a2) (r_a3 : jR a3) (r_a4 : jR a4) (r_a5 : jR a5) (r_a6 : jR a6) (h : w_X7_change N M o a1 a2 a3 a4 a5 a6 k) : Met l yX7_change (wsG yX7_change cX7_change 9 (some .int)) (rmm 4 91) (jPc G M [.ref (jD G o), .int (jI a1), .int (jI a2), .int (jI a3), .int (jI a4), .int (jI a5), .int (jI a6)]) (qI G k) 0 0 (gA G) := by
  refine jm_start RX7 rfl (by decide) (Nat.le_of_ble_eq_true rfl) o_M ?_
  intro p e s m args below meth c ls C hr hlocks hl B
  have hl : lv_has ls 9 [(0, .ref (jD G o)), (1, .int (jI a1)), (2, .int (jI a2)), (3, .int (jI a3)), (4, .int (jI a4)), (5, .int (jI a5)), (6, .int (jI a6))] := hl
  unfold w_X7_change at h
  refine lv_aload_n C.1 C.2.1 dX7_change_0 rfl (lv_at hl 0 rfl) ?_
  refine lv_iload_n C.1 C.2.1 dX7_change_1 rfl (lv_at hl 2 rfl) ?_
  refine cl_X7_placeOf C hl.1 B q_749 ⟨Nat.le_of_ble_eq_true rfl, Nat.le_of_ble_eq_true rfl⟩ ⟨Nat.zero_le _, Nat.zero_le _⟩ (Nat.le_of_ble_eq_true rfl) k_o r_a2 h dX7_change_2 (fun x1 r_x1 _ _ h B => ?_)
  refine lv_istore (lv' := [(7, .int (jI x1)), (0, .ref (jD G o)), (1, .int (jI a1)), (2, .int (jI a2)), (3, .int (jI a3)), (4, .int (jI a4)), (5, .int (jI a5)), (6, .int (jI a6))]) C.1 C.2.1 dX7_change_5 hl (by decide) rfl (fun ls hl => ?_)
  refine lv_aload_n C.1 C.2.1 dX7_change_7 rfl (lv_at hl 1 rfl) ?_
  refine lv_iload_n C.1 C.2.1 dX7_change_8 rfl (lv_at hl 2 rfl) ?_
  refine lv_iload_n C.1 C.2.1 dX7_change_9 rfl (lv_at hl 3 rfl) ?_
  refine cl_X7_errorOf C hl.1 B q_776 ⟨Nat.le_of_ble_eq_true rfl, Nat.le_of_ble_eq_true rfl⟩ ⟨Nat.zero_le _, Nat.zero_le _⟩ (Nat.le_of_ble_eq_true rfl) k_o r_a1 r_a2 h dX7_change_10 (fun x2 r_x2 _ _ h B => ?_)
  refine jr_if_lt (tgt := 37) C r_x2 h dX7_change_13 (by decide) (fun hc13 h => ?_) (fun hc13 h => ?_)
  · refine jr_ldc (n := -1000001) C q_753 (by decide) dX7_change_37 ?_
    exact jr_iret C B hr hlocks (jkc rfl) h dX7_change_39
  · refine lv_iload_n C.1 C.2.1 dX7_change_16 rfl (lv_at hl 4 rfl) ?_
    refine cl_X7_isField C hl.1 B q_812 ⟨Nat.le_of_ble_eq_true rfl, Nat.le_of_ble_eq_true rfl⟩ ⟨Nat.zero_le _, Nat.zero_le _⟩ (Nat.le_of_ble_eq_true rfl) r_a3 h dX7_change_17 (fun x3 z_x3 _ _ h B => ?_)
    refine jr_if_eq (tgt := 37) C (zR z_x3) h dX7_change_20 (by decide) (fun hc20 h => ?_) (fun hc20 h => ?_)
    · refine jr_ldc (n := -1000001) C q_753 (by decide) dX7_change_37 ?_
      exact jr_iret C B hr hlocks (jkc rfl) h dX7_change_39
    · refine lv_aload_n C.1 C.2.1 dX7_change_23 rfl (lv_at hl 1 rfl) ?_
      refine lv_iload C.1 C.2.1 dX7_change_24 (lv_at hl 0 rfl) ?_
      refine lv_iload_n C.1 C.2.1 dX7_change_26 rfl (lv_at hl 4 rfl) ?_
      refine lv_iload C.1 C.2.1 dX7_change_27 (lv_at hl 5 rfl) ?_
      refine lv_iload C.1 C.2.1 dX7_change_29 (lv_at hl 6 rfl) ?_
      refine cl_X7_hasSub C hl.1 B q_856 ⟨Nat.le_of_ble_eq_true rfl, Nat.le_of_ble_eq_true rfl⟩ ⟨Nat.zero_le _, Nat.zero_le _⟩ (Nat.le_of_ble_eq_true rfl) k_o r_x1 r_a3 r_a4 r_a5 h dX7_change_31 (fun x4 z_x4 _ _ h B => ?_)
      refine jr_if_ne (tgt := 40) C (zR z_x4) h dX7_change_34 (by decide) (fun hc34 h => ?_) (fun hc34 h => ?_)
      · refine jr_ldc (n := -1000001) C q_753 (by decide) dX7_change_37 ?_
        exact jr_iret C B hr hlocks (jkc rfl) h dX7_change_39
      · refine lv_iload C.1 C.2.1 dX7_change_40 (lv_at hl 7 rfl) ?_
        refine cl_X7_isNumber C hl.1 B q_830 ⟨Nat.le_of_ble_eq_true rfl, Nat.le_of_ble_eq_true rfl⟩ ⟨Nat.zero_le _, Nat.zero_le _⟩ (Nat.le_of_ble_eq_true rfl) r_a6 h dX7_change_42 (fun x5 z_x5 _ _ h B => ?_)
        refine jr_if_ne (tgt := 51) C (zR z_x5) h dX7_change_45 (by decide) (fun hc45 h => ?_) (fun hc45 h => ?_)
        · refine jr_ldc (n := -1000002) C q_748 (by decide) dX7_change_48 ?_
          exact jr_iret C B hr hlocks (jkc rfl) h dX7_change_50
        · refine lv_aload_n C.1 C.2.1 dX7_change_51 rfl (lv_at hl 1 rfl) ?_
          refine lv_iload C.1 C.2.1 dX7_change_52 (lv_at hl 0 rfl) ?_
          refine lv_iload_n C.1 C.2.1 dX7_change_54 rfl (lv_at hl 2 rfl) ?_
          refine cl_X7_isBarred C hl.1 B q_783 ⟨Nat.le_of_ble_eq_true rfl, Nat.le_of_ble_eq_true rfl⟩ ⟨Nat.zero_le _, Nat.zero_le _⟩ (Nat.le_of_ble_eq_true rfl) k_o r_x1 r_a1 h dX7_change_55 (fun x6 z_x6 _ _ h B => ?_)
          refine jr_if_eq (tgt := 64) C (zR z_x6) h dX7_change_58 (by decide) (fun hc58 h => ?_) (fun hc58 h => ?_)
          · refine lv_aload_n C.1 C.2.1 dX7_change_64 rfl (lv_at hl 1 rfl) ?_
            refine cl_X7_begins C hl.1 B q_734 ⟨Nat.le_of_ble_eq_true rfl, Nat.le_of_ble_eq_true rfl⟩ ⟨Nat.zero_le _, Nat.zero_le _⟩ (Nat.le_of_ble_eq_true rfl) k_o h dX7_change_65 (fun M7 _ _ h B => ?_)
            have o_M7 := B.2.2
            refine lv_aload_n C.1 C.2.1 dX7_change_68 rfl (lv_at hl 1 rfl) ?_
            refine lv_iload C.1 C.2.1 dX7_change_69 (lv_at hl 0 rfl) ?_
            refine lv_iload_n C.1 C.2.1 dX7_change_71 rfl (lv_at hl 4 rfl) ?_
            refine lv_iload C.1 C.2.1 dX7_change_72 (lv_at hl 5 rfl) ?_
            refine lv_iload C.1 C.2.1 dX7_change_74 (lv_at hl 6 rfl) ?_
            refine cl_X7_numberOf C hl.1 B q_844 ⟨Nat.le_of_ble_eq_true rfl, Nat.le_of_ble_eq_true rfl⟩ ⟨Nat.zero_le _, Nat.zero_le _⟩ (Nat.le_of_ble_eq_true rfl) k_o r_x1 r_a3 r_a4 r_a5 h dX7_change_76 (fun x8 r_x8 _ _ h B => ?_)
            refine lv_istore (lv' := [(8, .int (jI x8)), (7, .int (jI x1)), (0, .ref (jD G o)), (1, .int (jI a1)), (2, .int (jI a2)), (3, .int (jI a3)), (4, .int (jI a4)), (5, .int (jI a5)), (6, .int (jI a6))]) C.1 C.2.1 dX7_change_79 hl (by decide) rfl (fun ls hl => ?_)
            refine lv_aload_n C.1 C.2.1 dX7_change_81 rfl (lv_at hl 2 rfl) ?_
            refine lv_iload C.1 C.2.1 dX7_change_82 (lv_at hl 1 rfl) ?_
            refine lv_iload_n C.1 C.2.1 dX7_change_84 rfl (lv_at hl 5 rfl) ?_
            refine lv_iload C.1 C.2.1 dX7_change_85 (lv_at hl 6 rfl) ?_
            refine lv_iload C.1 C.2.1 dX7_change_87 (lv_at hl 7 rfl) ?_
            refine cl_X7_numberAtCell C hl.1 B q_841 ⟨Nat.le_of_ble_eq_true rfl, Nat.le_of_ble_eq_true rfl⟩ ⟨Nat.zero_le _, Nat.zero_le _⟩ (Nat.le_of_ble_eq_true rfl) r_a3 r_a4 r_a5 h dX7_change_89 (fun x9 r_x9 _ _ h B => ?_)
            refine lv_iload C.1 C.2.1 dX7_change_92 (lv_at hl 8 rfl) ?_
            refine cl_X7_lays C hl.1 B q_760 ⟨Nat.le_of_ble_eq_true rfl, Nat.le_of_ble_eq_true rfl⟩ ⟨Nat.zero_le _, Nat.zero_le _⟩ (Nat.le_of_ble_eq_true rfl) k_o r_x1 r_x9 r_a6 h dX7_change_94 (fun M10 _ _ h B => ?_)
            have o_M10 := B.2.2
            refine lv_aload_n C.1 C.2.1 dX7_change_97 rfl (lv_at hl 2 rfl) ?_
            refine lv_iload C.1 C.2.1 dX7_change_98 (lv_at hl 0 rfl) ?_
            refine cl_X7_keeps C hl.1 B q_764 ⟨Nat.le_of_ble_eq_true rfl, Nat.le_of_ble_eq_true rfl⟩ ⟨Nat.zero_le _, Nat.zero_le _⟩ (Nat.le_of_ble_eq_true rfl) k_o r_x8 h dX7_change_100 (fun x11 M12 r_x11 _ _ h B => ?_)
            have o_M12 := B.2.2
            exact jr_iret C B hr hlocks r_x11 h dX7_change_103
          · refine jr_ldc (n := -1000006) C q_787 (by decide) dX7_change_61 ?_
            exact jr_iret C B hr hlocks (jkc rfl) h dX7_change_63
theorem cl_X7_change {p : Program} {l : Launch} {e : Env} {R : Room} {s : State} {m : MethodId} {args : Array Value} {below : List Frame} {meth : Method} {c : Code} {H : Heap} {locs : List Loc} {cells slots : Nat} {Q : State → Prop} {cc : ByteArray} {nL : Nat} {own : String} {G : jG} {H0 : Heap} {pc idx : Nat} {ls : Array Slot} {rest : List Value} {N : Nat} {M : jM} {o a1 a2 a3 a4 a5 a6 : Int} {k : Int → jM → Prop} (C : Cx G p s args m c cc nL own) (hl : ls.size = nL) (B : Hp G M H0 H locs) (q1 : Cond.methodLink own idx yX7_change ∈ tb) (hR : (rmm 4 91).frames + 1 ≤ R.frames ∧ 8 + (9 + 11) + (rmm 4 91).locals ≤ R.locals) (hcs : cells ≤ R.cells ∧ slots ≤ R.slots) (hW : (rest.map fun v => v.category).sum ≤ 8) (k_o : jK o = 8) (r_a1 : jR a1) (r_a2 : jR a2) (r_a3 : jR a3) (r_a4 : jR a4) (r_a5 : jR a5) (r_a6 : jR a6) (h : w_X7_change N M o a1 a2 a3 a4 a5 a6 k) (hdg : decode cc pc = .ok (.invokevirtual idx, 3)) (kk : ∀ (r : Int) (M' : jM), jR r → ∀ (H1 : Heap) (locs1 : List Loc), k r M' → Hp G M' H0 H1 locs1 → W p l e R s m args below meth c H1 locs1 cells slots Q (F0 m (pc + 3) ls (.int (jI r) :: rest))) : W p l e R s m args below meth c H locs cells slots Q (F0 m pc ls (.int (jI a6) :: .int (jI a5) :: .int (jI a4) :: .int (jI a3) :: .int (jI a2) :: .int (jI a1) :: .ref (jD G o) :: rest)) :=
  jr_callI B (jr_runV (o := o) (As := [.int (jI a1), .int (jI a2), .int (jI a3), .int (jI a4), .int (jI a5), .int (jI a6)]) (n := 6) C hl B (m_X7_change B.2.2 k_o r_a1 r_a2 r_a3 r_a4 r_a5 r_a6 h) (jE8 k_o) (by omega) rfl q1 q_853 q_854 q_855 q_8 ⟨by decide, by decide, by decide +kernel⟩ rfl ⟨rfl, rfl⟩ hR hcs rfl hW hdg) (fun r M' H1 locs1 hr hk B1 => kk r M' hr H1 locs1 hk B1)
def w_X7_remove (N : Nat) (M : jM) (o : Int) (a1 : Int) (a2 : Int) (a3 : Int) (a4 : Int) (a5 : Int) (k : Int → jM → Prop) : Prop := (w_X7_placeOf N M o a2 (fun x1 => (w_X7_errorOf N M o a1 a2 (fun x2 => (if x2 < 0 then (k (-1000001) M) else (w_X7_isField a3 (fun x3 => (if x3 = 0 then (k (-1000001) M) else (w_X7_hasValue M o x1 a3 a4 (fun x4 => (if x4 = 0 then (k (-1000001) M) else (jL (w_X7_isBarred M o x1 a1 (fun x6 => (if x6 = 0 then (w_X7_begins N M o (fun M7 => (w_X7_goRemove N M7 o x1 a3 a4 a5 (fun x8 M9 => (w_X7_keeps N M9 o x8 (fun x10 M11 => (k x10 M11))))))) else (k (-1000006) M)))) (fun j38_5 => (if a5 = (-1) then (j38_5) else (w_X7_hasSub M o x1 a3 a4 a5 (fun x12 => (if x12 = 0 then (k (-1000001) M) else (j38_5))))))))))))))))))
set_option maxHeartbeats 4000000 in
set_option maxRecDepth 100000 in
theorem m_X7_remove {l : Launch} {G : jG} {N : Nat} {M : jM} {o a1 a2 a3 a4 a5 : Int} {k : Int → jM → Prop} (o_M : jOK M) (k_o : jK o = 8) (r_a1 : jR a1) (r_a2 : jR a2) (r_a3 : jR a3) (r_a4 : jR a4) (r_a5 : jR a5) (h : w_X7_remove N M o a1 a2 a3 a4 a5 k) : Met l yX7_remove (wsG yX7_remove cX7_remove 7 (some .int)) (rmm 5 122) (jPc G M [.ref (jD G o), .int (jI a1), .int (jI a2), .int (jI a3), .int (jI a4), .int (jI a5)]) (qI G k) 0 0 (gA G) := by
  refine jm_start RX7 rfl (by decide) (Nat.le_of_ble_eq_true rfl) o_M ?_
  intro p e s m args below meth c ls C hr hlocks hl B
  have hl : lv_has ls 7 [(0, .ref (jD G o)), (1, .int (jI a1)), (2, .int (jI a2)), (3, .int (jI a3)), (4, .int (jI a4)), (5, .int (jI a5))] := hl
  unfold w_X7_remove at h
  refine lv_aload_n C.1 C.2.1 dX7_remove_0 rfl (lv_at hl 0 rfl) ?_
  refine lv_iload_n C.1 C.2.1 dX7_remove_1 rfl (lv_at hl 2 rfl) ?_
  refine cl_X7_placeOf C hl.1 B q_749 ⟨Nat.le_of_ble_eq_true rfl, Nat.le_of_ble_eq_true rfl⟩ ⟨Nat.zero_le _, Nat.zero_le _⟩ (Nat.le_of_ble_eq_true rfl) k_o r_a2 h dX7_remove_2 (fun x1 r_x1 _ _ h B => ?_)
  refine lv_istore (lv' := [(6, .int (jI x1)), (0, .ref (jD G o)), (1, .int (jI a1)), (2, .int (jI a2)), (3, .int (jI a3)), (4, .int (jI a4)), (5, .int (jI a5))]) C.1 C.2.1 dX7_remove_5 hl (by decide) rfl (fun ls hl => ?_)
  refine lv_aload_n C.1 C.2.1 dX7_remove_7 rfl (lv_at hl 1 rfl) ?_
  refine lv_iload_n C.1 C.2.1 dX7_remove_8 rfl (lv_at hl 2 rfl) ?_
  refine lv_iload_n C.1 C.2.1 dX7_remove_9 rfl (lv_at hl 3 rfl) ?_
  refine cl_X7_errorOf C hl.1 B q_776 ⟨Nat.le_of_ble_eq_true rfl, Nat.le_of_ble_eq_true rfl⟩ ⟨Nat.zero_le _, Nat.zero_le _⟩ (Nat.le_of_ble_eq_true rfl) k_o r_a1 r_a2 h dX7_remove_10 (fun x2 r_x2 _ _ h B => ?_)
  refine jr_if_lt (tgt := 55) C r_x2 h dX7_remove_13 (by decide) (fun hc13 h => ?_) (fun hc13 h => ?_)
  · refine jr_ldc (n := -1000001) C q_753 (by decide) dX7_remove_55 ?_
    exact jr_iret C B hr hlocks (jkc rfl) h dX7_remove_57
  · refine lv_iload_n C.1 C.2.1 dX7_remove_16 rfl (lv_at hl 4 rfl) ?_
    refine cl_X7_isField C hl.1 B q_812 ⟨Nat.le_of_ble_eq_true rfl, Nat.le_of_ble_eq_true rfl⟩ ⟨Nat.zero_le _, Nat.zero_le _⟩ (Nat.le_of_ble_eq_true rfl) r_a3 h dX7_remove_17 (fun x3 z_x3 _ _ h B => ?_)
    refine jr_if_eq (tgt := 55) C (zR z_x3) h dX7_remove_20 (by decide) (fun hc20 h => ?_) (fun hc20 h => ?_)
    · refine jr_ldc (n := -1000001) C q_753 (by decide) dX7_remove_55 ?_
      exact jr_iret C B hr hlocks (jkc rfl) h dX7_remove_57
    · refine lv_aload_n C.1 C.2.1 dX7_remove_23 rfl (lv_at hl 1 rfl) ?_
      refine lv_iload C.1 C.2.1 dX7_remove_24 (lv_at hl 0 rfl) ?_
      refine lv_iload_n C.1 C.2.1 dX7_remove_26 rfl (lv_at hl 4 rfl) ?_
      refine lv_iload C.1 C.2.1 dX7_remove_27 (lv_at hl 5 rfl) ?_
      refine cl_X7_hasValue C hl.1 B q_819 ⟨Nat.le_of_ble_eq_true rfl, Nat.le_of_ble_eq_true rfl⟩ ⟨Nat.zero_le _, Nat.zero_le _⟩ (Nat.le_of_ble_eq_true rfl) k_o r_x1 r_a3 r_a4 h dX7_remove_29 (fun x4 z_x4 _ _ h B => ?_)
      refine jr_if_eq (tgt := 55) C (zR z_x4) h dX7_remove_32 (by decide) (fun hc32 h => ?_) (fun hc32 h => ?_)
      · refine jr_ldc (n := -1000001) C q_753 (by decide) dX7_remove_55 ?_
        exact jr_iret C B hr hlocks (jkc rfl) h dX7_remove_57
      · refine lv_iload C.1 C.2.1 dX7_remove_35 (lv_at hl 6 rfl) ?_
        refine jr_iconst C dX7_remove_37 ?_
        obtain ⟨j38_5, hj38_5, h⟩ := jx_join (P := fun j38_5 : Prop => ∀ (H : Heap) (locs : List Loc) (ls : Array Slot), j38_5 → Hp G M s.heap H locs → lv_has ls 7 [(6, .int (jI x1)), (0, .ref (jD G o)), (1, .int (jI a1)), (3, .int (jI a3)), (4, .int (jI a4)), (5, .int (jI a5))] → W p l e (rmm 5 122) s m args below meth c H locs 0 0 (MQ below (qI G k) args s 0 0 (gA G)) (F0 m 58 ls [])) h (by
          intro H locs ls h  B hl
          refine lv_aload_n C.1 C.2.1 dX7_remove_58 rfl (lv_at hl 1 rfl) ?_
          refine lv_iload C.1 C.2.1 dX7_remove_59 (lv_at hl 0 rfl) ?_
          refine lv_iload_n C.1 C.2.1 dX7_remove_61 rfl (lv_at hl 2 rfl) ?_
          refine cl_X7_isBarred C hl.1 B q_783 ⟨Nat.le_of_ble_eq_true rfl, Nat.le_of_ble_eq_true rfl⟩ ⟨Nat.zero_le _, Nat.zero_le _⟩ (Nat.le_of_ble_eq_true rfl) k_o r_x1 r_a1 h dX7_remove_62 (fun x6 z_x6 _ _ h B => ?_)
          refine jr_if_eq (tgt := 71) C (zR z_x6) h dX7_remove_65 (by decide) (fun hc65 h => ?_) (fun hc65 h => ?_)
          · refine lv_aload_n C.1 C.2.1 dX7_remove_71 rfl (lv_at hl 1 rfl) ?_
            refine cl_X7_begins C hl.1 B q_734 ⟨Nat.le_of_ble_eq_true rfl, Nat.le_of_ble_eq_true rfl⟩ ⟨Nat.zero_le _, Nat.zero_le _⟩ (Nat.le_of_ble_eq_true rfl) k_o h dX7_remove_72 (fun M7 _ _ h B => ?_)
            have o_M7 := B.2.2
            refine lv_aload_n C.1 C.2.1 dX7_remove_75 rfl (lv_at hl 1 rfl) ?_
            refine lv_aload_n C.1 C.2.1 dX7_remove_76 rfl (lv_at hl 1 rfl) ?_
            refine lv_iload C.1 C.2.1 dX7_remove_77 (lv_at hl 0 rfl) ?_
            refine lv_iload_n C.1 C.2.1 dX7_remove_79 rfl (lv_at hl 3 rfl) ?_
            refine lv_iload C.1 C.2.1 dX7_remove_80 (lv_at hl 4 rfl) ?_
            refine lv_iload C.1 C.2.1 dX7_remove_82 (lv_at hl 5 rfl) ?_
            refine cl_X7_goRemove C hl.1 B q_864 ⟨Nat.le_of_ble_eq_true rfl, Nat.le_of_ble_eq_true rfl⟩ ⟨Nat.zero_le _, Nat.zero_le _⟩ (Nat.le_of_ble_eq_true rfl) k_o r_x1 r_a3 r_a4 r_a5 h dX7_remove_84 (fun x8 M9 r_x8 _ _ h B => ?_)
            have o_M9 := B.2.2
            refine cl_X7_keeps C hl.1 B q_764 ⟨Nat.le_of_ble_eq_true rfl, Nat.le_of_ble_eq_true rfl⟩ ⟨Nat.zero_le _, Nat.zero_le _⟩ (Nat.le_of_ble_eq_true rfl) k_o r_x8 h dX7_remove_87 (fun x10 M11 r_x10 _ _ h B => ?_)
            have o_M11 := B.2.2
            exact jr_iret C B hr hlocks r_x10 h dX7_remove_90
          · refine jr_ldc (n := -1000006) C q_787 (by decide) dX7_remove_68 ?_
            exact jr_iret C B hr hlocks (jkc rfl) h dX7_remove_70)
        refine jr_icmp_eq (tgt := 58) C r_a5 (jkc rfl) h dX7_remove_38 (by decide) (fun hc38 h => ?_) (fun hc38 h => ?_)
        · exact hj38_5 _ _ _ h  B (lv_sub hl [0, 1, 2, 4, 5, 6] rfl)
        · refine lv_aload_n C.1 C.2.1 dX7_remove_41 rfl (lv_at hl 1 rfl) ?_
          refine lv_iload C.1 C.2.1 dX7_remove_42 (lv_at hl 0 rfl) ?_
          refine lv_iload_n C.1 C.2.1 dX7_remove_44 rfl (lv_at hl 4 rfl) ?_
          refine lv_iload C.1 C.2.1 dX7_remove_45 (lv_at hl 5 rfl) ?_
          refine lv_iload C.1 C.2.1 dX7_remove_47 (lv_at hl 6 rfl) ?_
          refine cl_X7_hasSub C hl.1 B q_856 ⟨Nat.le_of_ble_eq_true rfl, Nat.le_of_ble_eq_true rfl⟩ ⟨Nat.zero_le _, Nat.zero_le _⟩ (Nat.le_of_ble_eq_true rfl) k_o r_x1 r_a3 r_a4 r_a5 h dX7_remove_49 (fun x12 z_x12 _ _ h B => ?_)
          refine jr_if_ne (tgt := 58) C (zR z_x12) h dX7_remove_52 (by decide) (fun hc52 h => ?_) (fun hc52 h => ?_)
          · refine jr_ldc (n := -1000001) C q_753 (by decide) dX7_remove_55 ?_
            exact jr_iret C B hr hlocks (jkc rfl) h dX7_remove_57
          · exact hj38_5 _ _ _ h  B (lv_sub hl [0, 1, 2, 4, 5, 6] rfl)
theorem cl_X7_remove {p : Program} {l : Launch} {e : Env} {R : Room} {s : State} {m : MethodId} {args : Array Value} {below : List Frame} {meth : Method} {c : Code} {H : Heap} {locs : List Loc} {cells slots : Nat} {Q : State → Prop} {cc : ByteArray} {nL : Nat} {own : String} {G : jG} {H0 : Heap} {pc idx : Nat} {ls : Array Slot} {rest : List Value} {N : Nat} {M : jM} {o a1 a2 a3 a4 a5 : Int} {k : Int → jM → Prop} (C : Cx G p s args m c cc nL own) (hl : ls.size = nL) (B : Hp G M H0 H locs) (q1 : Cond.methodLink own idx yX7_remove ∈ tb) (hR : (rmm 5 122).frames + 1 ≤ R.frames ∧ 8 + (7 + 11) + (rmm 5 122).locals ≤ R.locals) (hcs : cells ≤ R.cells ∧ slots ≤ R.slots) (hW : (rest.map fun v => v.category).sum ≤ 8) (k_o : jK o = 8) (r_a1 : jR a1) (r_a2 : jR a2) (r_a3 : jR a3) (r_a4 : jR a4) (r_a5 : jR a5) (h : w_X7_remove N M o a1 a2 a3 a4 a5 k) (hdg : decode cc pc = .ok (.invokevirtual idx, 3)) (kk : ∀ (r : Int) (M' : jM), jR r → ∀ (H1 : Heap) (locs1 : List Loc), k r M' → Hp G M' H0 H1 locs1 → W p l e R s m args below meth c H1 locs1 cells slots Q (F0 m (pc + 3) ls (.int (jI r) :: rest))) : W p l e R s m args below meth c H locs cells slots Q (F0 m pc ls (.int (jI a5) :: .int (jI a4) :: .int (jI a3) :: .int (jI a2) :: .int (jI a1) :: .ref (jD G o) :: rest)) :=
  jr_callI B (jr_runV (o := o) (As := [.int (jI a1), .int (jI a2), .int (jI a3), .int (jI a4), .int (jI a5)]) (n := 5) C hl B (m_X7_remove B.2.2 k_o r_a1 r_a2 r_a3 r_a4 r_a5 h) (jE8 k_o) (by omega) rfl q1 q_861 q_862 q_863 q_8 ⟨by decide, by decide, by decide +kernel⟩ rfl ⟨rfl, rfl⟩ hR hcs rfl hW hdg) (fun r M' H1 locs1 hr hk B1 => kk r M' hr H1 locs1 hk B1)
def lp_X7_removeLine_58 (N : Nat) (o : Int) (a3 : Int) (x1 : Int) (kx58 : jM → Prop) : Nat → Int → jM → Prop
  | 0, _, _ => False
  | n + 1, x7, M8 => (if x7 < 4 then (jB (jW (1 + x7)) 1115 ∧ (if (M8 (o + 1) (jW (1 + x7))) = 1 then (w_X7_hasValue M8 o x1 x7 a3 (fun x13 => (if x13 = 0 then (jL (jW (x7 + 1)) (fun x14 => (lp_X7_removeLine_58 N o a3 x1 kx58 n x14 M8))) else (w_X7_dropsValue N M8 o x1 x7 a3 (fun M15 => (jL (jW (x7 + 1)) (fun x16 => (lp_X7_removeLine_58 N o a3 x1 kx58 n x16 M15)))))))) else (jL (jW (x7 + 1)) (fun x17 => (lp_X7_removeLine_58 N o a3 x1 kx58 n x17 M8))))) else (kx58 M8))
def w_X7_removeLine (N : Nat) (M : jM) (o : Int) (a1 : Int) (a2 : Int) (a3 : Int) (k : Int → jM → Prop) : Prop := (w_X7_placeOf N M o a2 (fun x1 => (w_X7_errorOf N M o a1 a2 (fun x2 => (if x2 < 0 then (k (-1000001) M) else (w_X7_inLine N M o x1 a3 (fun x3 => (if x3 = 0 then (k (-1000001) M) else (w_X7_isBarred M o x1 a1 (fun x4 => (if x4 = 0 then (w_X7_begins N M o (fun M5 => (w_X7_inLine N M5 o x1 a3 (fun x6 => (lp_X7_removeLine_58 N o a3 x1 (fun (M9 : jM) => (w_X7_keeps N M9 o x6 (fun x10 M11 => (k x10 M11)))) N 0 M5))))) else (k (-1000006) M))))))))))))
set_option maxHeartbeats 4000000 in
set_option maxRecDepth 100000 in
theorem m_X7_removeLine {l : Launch} {G : jG} {N : Nat} {M : jM} {o a1 a2 a3 : Int} {k : Int → jM → Prop} (o_M : jOK M) (k_o : jK o = 8) (r_a1 : jR a1) (r_a2 : jR a2) (r_a3 : jR a3) (h : w_X7_removeLine N M o a1 a2 a3 k) : Met l yX7_removeLine (wsG yX7_removeLine cX7_removeLine 7 (some .int)) (rmm 4 96) (jPc G M [.ref (jD G o), .int (jI a1), .int (jI a2), .int (jI a3)]) (qI G k) 0 0 (gA G) := by
  refine jm_start RX7 rfl (by decide) (Nat.le_of_ble_eq_true rfl) o_M ?_
  intro p e s m args below meth c ls C hr hlocks hl B
  have hl : lv_has ls 7 [(0, .ref (jD G o)), (1, .int (jI a1)), (2, .int (jI a2)), (3, .int (jI a3))] := hl
  unfold w_X7_removeLine at h
  refine lv_aload_n C.1 C.2.1 dX7_removeLine_0 rfl (lv_at hl 0 rfl) ?_
  refine lv_iload_n C.1 C.2.1 dX7_removeLine_1 rfl (lv_at hl 2 rfl) ?_
  refine cl_X7_placeOf C hl.1 B q_749 ⟨Nat.le_of_ble_eq_true rfl, Nat.le_of_ble_eq_true rfl⟩ ⟨Nat.zero_le _, Nat.zero_le _⟩ (Nat.le_of_ble_eq_true rfl) k_o r_a2 h dX7_removeLine_2 (fun x1 r_x1 _ _ h B => ?_)
  refine lv_istore (lv' := [(4, .int (jI x1)), (0, .ref (jD G o)), (1, .int (jI a1)), (2, .int (jI a2)), (3, .int (jI a3))]) C.1 C.2.1 dX7_removeLine_5 hl (by decide) rfl (fun ls hl => ?_)
  refine lv_aload_n C.1 C.2.1 dX7_removeLine_7 rfl (lv_at hl 1 rfl) ?_
  refine lv_iload_n C.1 C.2.1 dX7_removeLine_8 rfl (lv_at hl 2 rfl) ?_
  refine lv_iload_n C.1 C.2.1 dX7_removeLine_9 rfl (lv_at hl 3 rfl) ?_
  refine cl_X7_errorOf C hl.1 B q_776 ⟨Nat.le_of_ble_eq_true rfl, Nat.le_of_ble_eq_true rfl⟩ ⟨Nat.zero_le _, Nat.zero_le _⟩ (Nat.le_of_ble_eq_true rfl) k_o r_a1 r_a2 h dX7_removeLine_10 (fun x2 r_x2 _ _ h B => ?_)
  refine jr_if_lt (tgt := 26) C r_x2 h dX7_removeLine_13 (by decide) (fun hc13 h => ?_) (fun hc13 h => ?_)
  · refine jr_ldc (n := -1000001) C q_753 (by decide) dX7_removeLine_26 ?_
    exact jr_iret C B hr hlocks (jkc rfl) h dX7_removeLine_28
  · refine lv_aload_n C.1 C.2.1 dX7_removeLine_16 rfl (lv_at hl 1 rfl) ?_
    refine lv_iload C.1 C.2.1 dX7_removeLine_17 (lv_at hl 0 rfl) ?_
    refine lv_iload_n C.1 C.2.1 dX7_removeLine_19 rfl (lv_at hl 4 rfl) ?_
    refine cl_X7_inLine C hl.1 B q_876 ⟨Nat.le_of_ble_eq_true rfl, Nat.le_of_ble_eq_true rfl⟩ ⟨Nat.zero_le _, Nat.zero_le _⟩ (Nat.le_of_ble_eq_true rfl) k_o r_x1 r_a3 h dX7_removeLine_20 (fun x3 r_x3 _ _ h B => ?_)
    refine jr_if_ne (tgt := 29) C r_x3 h dX7_removeLine_23 (by decide) (fun hc23 h => ?_) (fun hc23 h => ?_)
    · refine jr_ldc (n := -1000001) C q_753 (by decide) dX7_removeLine_26 ?_
      exact jr_iret C B hr hlocks (jkc rfl) h dX7_removeLine_28
    · refine lv_aload_n C.1 C.2.1 dX7_removeLine_29 rfl (lv_at hl 1 rfl) ?_
      refine lv_iload C.1 C.2.1 dX7_removeLine_30 (lv_at hl 0 rfl) ?_
      refine lv_iload_n C.1 C.2.1 dX7_removeLine_32 rfl (lv_at hl 2 rfl) ?_
      refine cl_X7_isBarred C hl.1 B q_783 ⟨Nat.le_of_ble_eq_true rfl, Nat.le_of_ble_eq_true rfl⟩ ⟨Nat.zero_le _, Nat.zero_le _⟩ (Nat.le_of_ble_eq_true rfl) k_o r_x1 r_a1 h dX7_removeLine_33 (fun x4 z_x4 _ _ h B => ?_)
      refine jr_if_eq (tgt := 42) C (zR z_x4) h dX7_removeLine_36 (by decide) (fun hc36 h => ?_) (fun hc36 h => ?_)
      · refine lv_aload_n C.1 C.2.1 dX7_removeLine_42 rfl (lv_at hl 1 rfl) ?_
        refine cl_X7_begins C hl.1 B q_734 ⟨Nat.le_of_ble_eq_true rfl, Nat.le_of_ble_eq_true rfl⟩ ⟨Nat.zero_le _, Nat.zero_le _⟩ (Nat.le_of_ble_eq_true rfl) k_o h dX7_removeLine_43 (fun M5 _ _ h B => ?_)
        have o_M5 := B.2.2
        refine lv_aload_n C.1 C.2.1 dX7_removeLine_46 rfl (lv_at hl 1 rfl) ?_
        refine lv_iload C.1 C.2.1 dX7_removeLine_47 (lv_at hl 0 rfl) ?_
        refine lv_iload_n C.1 C.2.1 dX7_removeLine_49 rfl (lv_at hl 4 rfl) ?_
        refine cl_X7_inLine C hl.1 B q_876 ⟨Nat.le_of_ble_eq_true rfl, Nat.le_of_ble_eq_true rfl⟩ ⟨Nat.zero_le _, Nat.zero_le _⟩ (Nat.le_of_ble_eq_true rfl) k_o r_x1 r_a3 h dX7_removeLine_50 (fun x6 r_x6 _ _ h B => ?_)
        refine lv_istore (lv' := [(5, .int (jI x6)), (4, .int (jI x1)), (0, .ref (jD G o)), (1, .int (jI a1)), (2, .int (jI a2)), (3, .int (jI a3))]) C.1 C.2.1 dX7_removeLine_53 hl (by decide) rfl (fun ls hl => ?_)
        refine jr_iconst C dX7_removeLine_55 ?_
        refine lv_istore (lv' := [(6, .int (jI 0)), (5, .int (jI x6)), (4, .int (jI x1)), (0, .ref (jD G o)), (1, .int (jI a1)), (2, .int (jI a2)), (3, .int (jI a3))]) C.1 C.2.1 dX7_removeLine_56 hl (by decide) rfl (fun ls hl => ?_)
        obtain ⟨kx58, hkx58, h⟩ : ∃ kx58 : jM → Prop, (∀ (M9 : jM) (H : Heap) (locs : List Loc) (ls : Array Slot), kx58 M9 → Hp G M9 s.heap H locs → lv_has ls 7 [(5, .int (jI x6)), (0, .ref (jD G o))] → W p l e (rmm 4 96) s m args below meth c H locs 0 0 (MQ below (qI G k) args s 0 0 (gA G)) (F0 m 104 ls [])) ∧ lp_X7_removeLine_58 N o a3 x1 kx58 N 0 M5 := by
          refine ⟨_, ?_, h⟩
          intro M9 H locs ls h  B hl
          have o_M9 := B.2.2
          refine lv_aload_n C.1 C.2.1 dX7_removeLine_104 rfl (lv_at hl 1 rfl) ?_
          refine lv_iload C.1 C.2.1 dX7_removeLine_105 (lv_at hl 0 rfl) ?_
          refine cl_X7_keeps C hl.1 B q_764 ⟨Nat.le_of_ble_eq_true rfl, Nat.le_of_ble_eq_true rfl⟩ ⟨Nat.zero_le _, Nat.zero_le _⟩ (Nat.le_of_ble_eq_true rfl) k_o r_x6 h dX7_removeLine_107 (fun x10 M11 r_x10 _ _ h B => ?_)
          have o_M11 := B.2.2
          exact jr_iret C B hr hlocks r_x10 h dX7_removeLine_110
        have hL58 : ∀ (n : Nat) (x7 : Int) (M8 : jM) (H : Heap) (locs : List Loc) (ls : Array Slot), lp_X7_removeLine_58 N o a3 x1 kx58 n x7 M8 → jR x7 → Hp G M8 s.heap H locs → lv_has ls 7 [(6, .int (jI x7)), (5, .int (jI x6)), (4, .int (jI x1)), (0, .ref (jD G o)), (3, .int (jI a3))] → W p l e (rmm 4 96) s m args below meth c H locs 0 0 (MQ below (qI G k) args s 0 0 (gA G)) (F0 m 58 ls []) := by
          intro n
          induction n with
          | zero => intro x7 M8 H locs ls h; exact (show False from h).elim
          | succ n ih58 =>
            intro x7 M8 H locs ls h r_x7 B hl
            have o_M8 := B.2.2
            rw [lp_X7_removeLine_58] at h
            refine lv_iload C.1 C.2.1 dX7_removeLine_58 (lv_at hl 0 rfl) ?_
            refine jr_iconst C dX7_removeLine_60 ?_
            refine jr_icmp_ge (tgt := 104) C r_x7 (jkc rfl) h dX7_removeLine_61 (by decide) (fun hc61 h => ?_) (fun hc61 h => ?_)
            · refine lv_aload_n C.1 C.2.1 dX7_removeLine_64 rfl (lv_at hl 3 rfl) ?_
              refine gf_X7_7 C B k_o dX7_removeLine_65 ?_
              refine jr_iconst C dX7_removeLine_68 ?_
              refine lv_iload C.1 C.2.1 dX7_removeLine_69 (lv_at hl 0 rfl) ?_
              refine jr_iadd C dX7_removeLine_71 ?_
              obtain ⟨g12, h⟩ := h
              refine jr_iald C B 1115 (jk1 (ko_X7_0 k_o) rfl) (jk2 (ko_X7_0 k_o) rfl) (jW_R _) g12 dX7_removeLine_72 ?_
              refine jr_iconst C dX7_removeLine_73 ?_
              refine jr_icmp_ne (tgt := 98) C (o_M8 (o + 1) (jW (1 + x7))).1 (jkc rfl) h dX7_removeLine_74 (by decide) (fun hc74 h => ?_) (fun hc74 h => ?_)
              · refine lv_aload_n C.1 C.2.1 dX7_removeLine_77 rfl (lv_at hl 3 rfl) ?_
                refine lv_iload C.1 C.2.1 dX7_removeLine_78 (lv_at hl 2 rfl) ?_
                refine lv_iload C.1 C.2.1 dX7_removeLine_80 (lv_at hl 0 rfl) ?_
                refine lv_iload_n C.1 C.2.1 dX7_removeLine_82 rfl (lv_at hl 4 rfl) ?_
                refine cl_X7_hasValue C hl.1 B q_819 ⟨Nat.le_of_ble_eq_true rfl, Nat.le_of_ble_eq_true rfl⟩ ⟨Nat.zero_le _, Nat.zero_le _⟩ (Nat.le_of_ble_eq_true rfl) k_o r_x1 r_x7 r_a3 h dX7_removeLine_83 (fun x13 z_x13 _ _ h B => ?_)
                refine jr_if_eq (tgt := 98) C (zR z_x13) h dX7_removeLine_86 (by decide) (fun hc86 h => ?_) (fun hc86 h => ?_)
                · refine jr_iinc (k := 0) (lv' := fun x14 => [(6, .int (jI x14)), (5, .int (jI x6)), (4, .int (jI x1)), (0, .ref (jD G o)), (3, .int (jI a3))]) C h hl rfl (by decide) (fun _ => rfl) dX7_removeLine_98 (fun x14 h r_x14 ls hl => ?_)
                  refine lv_goto (tgt := 58) C.1 C.2.1 dX7_removeLine_101 (by decide) ?_
                  exact ih58 _ _ _ _ _ h r_x14 B (lv_sub hl [0, 1, 2, 3, 4] rfl)
                · refine lv_aload_n C.1 C.2.1 dX7_removeLine_89 rfl (lv_at hl 3 rfl) ?_
                  refine lv_iload C.1 C.2.1 dX7_removeLine_90 (lv_at hl 2 rfl) ?_
                  refine lv_iload C.1 C.2.1 dX7_removeLine_92 (lv_at hl 0 rfl) ?_
                  refine lv_iload_n C.1 C.2.1 dX7_removeLine_94 rfl (lv_at hl 4 rfl) ?_
                  refine cl_X7_dropsValue C hl.1 B q_868 ⟨Nat.le_of_ble_eq_true rfl, Nat.le_of_ble_eq_true rfl⟩ ⟨Nat.zero_le _, Nat.zero_le _⟩ (Nat.le_of_ble_eq_true rfl) k_o r_x1 r_x7 r_a3 h dX7_removeLine_95 (fun M15 _ _ h B => ?_)
                  have o_M15 := B.2.2
                  refine jr_iinc (k := 0) (lv' := fun x16 => [(6, .int (jI x16)), (5, .int (jI x6)), (4, .int (jI x1)), (0, .ref (jD G o)), (3, .int (jI a3))]) C h hl rfl (by decide) (fun _ => rfl) dX7_removeLine_98 (fun x16 h r_x16 ls hl => ?_)
                  refine lv_goto (tgt := 58) C.1 C.2.1 dX7_removeLine_101 (by decide) ?_
                  exact ih58 _ _ _ _ _ h r_x16 B (lv_sub hl [0, 1, 2, 3, 4] rfl)
              · refine jr_iinc (k := 0) (lv' := fun x17 => [(6, .int (jI x17)), (5, .int (jI x6)), (4, .int (jI x1)), (0, .ref (jD G o)), (3, .int (jI a3))]) C h hl rfl (by decide) (fun _ => rfl) dX7_removeLine_98 (fun x17 h r_x17 ls hl => ?_)
                refine lv_goto (tgt := 58) C.1 C.2.1 dX7_removeLine_101 (by decide) ?_
                exact ih58 _ _ _ _ _ h r_x17 B (lv_sub hl [0, 1, 2, 3, 4] rfl)
            · exact hkx58 _ _ _ _ h  B (lv_sub hl [1, 3] rfl)
        exact hL58 N _ _ _ _ _ h (jkc rfl) B (lv_sub hl [0, 1, 2, 3, 6] rfl)
      · refine jr_ldc (n := -1000006) C q_787 (by decide) dX7_removeLine_39 ?_
        exact jr_iret C B hr hlocks (jkc rfl) h dX7_removeLine_41
theorem cl_X7_removeLine {p : Program} {l : Launch} {e : Env} {R : Room} {s : State} {m : MethodId} {args : Array Value} {below : List Frame} {meth : Method} {c : Code} {H : Heap} {locs : List Loc} {cells slots : Nat} {Q : State → Prop} {cc : ByteArray} {nL : Nat} {own : String} {G : jG} {H0 : Heap} {pc idx : Nat} {ls : Array Slot} {rest : List Value} {N : Nat} {M : jM} {o a1 a2 a3 : Int} {k : Int → jM → Prop} (C : Cx G p s args m c cc nL own) (hl : ls.size = nL) (B : Hp G M H0 H locs) (q1 : Cond.methodLink own idx yX7_removeLine ∈ tb) (hR : (rmm 4 96).frames + 1 ≤ R.frames ∧ 8 + (7 + 11) + (rmm 4 96).locals ≤ R.locals) (hcs : cells ≤ R.cells ∧ slots ≤ R.slots) (hW : (rest.map fun v => v.category).sum ≤ 8) (k_o : jK o = 8) (r_a1 : jR a1) (r_a2 : jR a2) (r_a3 : jR a3) (h : w_X7_removeLine N M o a1 a2 a3 k) (hdg : decode cc pc = .ok (.invokevirtual idx, 3)) (kk : ∀ (r : Int) (M' : jM), jR r → ∀ (H1 : Heap) (locs1 : List Loc), k r M' → Hp G M' H0 H1 locs1 → W p l e R s m args below meth c H1 locs1 cells slots Q (F0 m (pc + 3) ls (.int (jI r) :: rest))) : W p l e R s m args below meth c H locs cells slots Q (F0 m pc ls (.int (jI a3) :: .int (jI a2) :: .int (jI a1) :: .ref (jD G o) :: rest)) :=
  jr_callI B (jr_runV (o := o) (As := [.int (jI a1), .int (jI a2), .int (jI a3)]) (n := 3) C hl B (m_X7_removeLine B.2.2 k_o r_a1 r_a2 r_a3 h) (jE8 k_o) (by omega) rfl q1 q_873 q_874 q_875 q_8 ⟨by decide, by decide, by decide +kernel⟩ rfl ⟨rfl, rfl⟩ hR hcs rfl hW hdg) (fun r M' H1 locs1 hr hk B1 => kk r M' hr H1 locs1 hk B1)
def w_X7_append (M : jM) (o : Int) (a1 : Int) (k : Int → jM → Prop) : Prop := (w_X7_in a1 32 126 (fun x1 => (if x1 = 0 then (k (-1000002) M) else (if (M o 5) = 90 then (k (-1000004) M) else (jB (M o 5) 90 ∧ jL (jU M (o + 4) (M o 5) a1) (fun M2 => (jL (jU M2 o 5 (jW ((M2 o 5) + 1))) (fun M3 => (k (M3 o 5) M3)))))))))
set_option maxHeartbeats 4000000 in
set_option maxRecDepth 100000 in
theorem m_X7_append {l : Launch} {G : jG} {M : jM} {o a1 : Int} {k : Int → jM → Prop} (o_M : jOK M) (k_o : jK o = 8) (r_a1 : jR a1) (h : w_X7_append M o a1 k) : Met l yX7_append (wsG yX7_append cX7_append 2 (some .int)) (rmm 1 22) (jPc G M [.ref (jD G o), .int (jI a1)]) (qI G k) 0 0 (gA G) := by
  refine jm_start RX7 rfl (by decide) (Nat.le_of_ble_eq_true rfl) o_M ?_
  intro p e s m args below meth c ls C hr hlocks hl B
  have hl : lv_has ls 2 [(0, .ref (jD G o)), (1, .int (jI a1))] := hl
  unfold w_X7_append at h
  refine lv_iload_n C.1 C.2.1 dX7_append_0 rfl (lv_at hl 1 rfl) ?_
  refine jr_bipush C dX7_append_1 (by decide) ?_
  refine jr_bipush C dX7_append_3 (by decide) ?_
  refine cl_X7_in C hl.1 B q_745 ⟨Nat.le_of_ble_eq_true rfl, Nat.le_of_ble_eq_true rfl⟩ ⟨Nat.zero_le _, Nat.zero_le _⟩ (Nat.le_of_ble_eq_true rfl) r_a1 (jkc rfl) (jkc rfl) h dX7_append_5 (fun x1 z_x1 _ _ h B => ?_)
  refine jr_if_ne (tgt := 14) C (zR z_x1) h dX7_append_8 (by decide) (fun hc8 h => ?_) (fun hc8 h => ?_)
  · refine jr_ldc (n := -1000002) C q_748 (by decide) dX7_append_11 ?_
    exact jr_iret C B hr hlocks (jkc rfl) h dX7_append_13
  · refine lv_aload_n C.1 C.2.1 dX7_append_14 rfl (lv_at hl 0 rfl) ?_
    refine gf_X7_148 C B k_o dX7_append_15 ?_
    refine jr_bipush C dX7_append_18 (by decide) ?_
    refine jr_icmp_ne (tgt := 26) C (o_M o 5).1 (jkc rfl) h dX7_append_20 (by decide) (fun hc20 h => ?_) (fun hc20 h => ?_)
    · refine jr_ldc (n := -1000004) C q_759 (by decide) dX7_append_23 ?_
      exact jr_iret C B hr hlocks (jkc rfl) h dX7_append_25
    · refine lv_aload_n C.1 C.2.1 dX7_append_26 rfl (lv_at hl 0 rfl) ?_
      refine gf_X7_19 C B k_o dX7_append_27 ?_
      refine lv_aload_n C.1 C.2.1 dX7_append_30 rfl (lv_at hl 0 rfl) ?_
      refine gf_X7_148 C B k_o dX7_append_31 ?_
      refine lv_iload_n C.1 C.2.1 dX7_append_34 rfl (lv_at hl 1 rfl) ?_
      refine jr_iast C B 90 (jk1 (ko_X7_4 k_o) rfl) (jk2 (ko_X7_4 k_o) rfl) (o_M o 5).1 r_a1 h dX7_append_35 (fun M2 _ _ h B => ?_)
      have o_M2 := B.2.2
      refine lv_aload_n C.1 C.2.1 dX7_append_36 rfl (lv_at hl 0 rfl) ?_
      refine lv_dup C.1 C.2.1 dX7_append_37 rfl ?_
      refine gf_X7_148 C B k_o dX7_append_38 ?_
      refine jr_iconst C dX7_append_41 ?_
      refine jr_iadd C dX7_append_42 ?_
      refine pf_X7_148 C B k_o (jW_R _) h dX7_append_43 (fun M3 _ _ h B => ?_)
      have o_M3 := B.2.2
      refine lv_aload_n C.1 C.2.1 dX7_append_46 rfl (lv_at hl 0 rfl) ?_
      refine gf_X7_148 C B k_o dX7_append_47 ?_
      exact jr_iret C B hr hlocks (o_M3 o 5).1 h dX7_append_50
theorem cl_X7_append {p : Program} {l : Launch} {e : Env} {R : Room} {s : State} {m : MethodId} {args : Array Value} {below : List Frame} {meth : Method} {c : Code} {H : Heap} {locs : List Loc} {cells slots : Nat} {Q : State → Prop} {cc : ByteArray} {nL : Nat} {own : String} {G : jG} {H0 : Heap} {pc idx : Nat} {ls : Array Slot} {rest : List Value} {M : jM} {o a1 : Int} {k : Int → jM → Prop} (C : Cx G p s args m c cc nL own) (hl : ls.size = nL) (B : Hp G M H0 H locs) (q1 : Cond.methodLink own idx yX7_append ∈ tb) (hR : (rmm 1 22).frames + 1 ≤ R.frames ∧ 8 + (2 + 11) + (rmm 1 22).locals ≤ R.locals) (hcs : cells ≤ R.cells ∧ slots ≤ R.slots) (hW : (rest.map fun v => v.category).sum ≤ 8) (k_o : jK o = 8) (r_a1 : jR a1) (h : w_X7_append M o a1 k) (hdg : decode cc pc = .ok (.invokevirtual idx, 3)) (kk : ∀ (r : Int) (M' : jM), jR r → ∀ (H1 : Heap) (locs1 : List Loc), k r M' → Hp G M' H0 H1 locs1 → W p l e R s m args below meth c H1 locs1 cells slots Q (F0 m (pc + 3) ls (.int (jI r) :: rest))) : W p l e R s m args below meth c H locs cells slots Q (F0 m pc ls (.int (jI a1) :: .ref (jD G o) :: rest)) :=
  jr_callI B (jr_runV (o := o) (As := [.int (jI a1)]) (n := 1) C hl B (m_X7_append B.2.2 k_o r_a1 h) (jE8 k_o) (by omega) rfl q1 q_881 q_882 q_883 q_8 ⟨by decide, by decide, by decide +kernel⟩ rfl ⟨rfl, rfl⟩ hR hcs rfl hW hdg) (fun r M' H1 locs1 hr hk B1 => kk r M' hr H1 locs1 hk B1)
def w_X7_clearText (M : jM) (o : Int) (k : Int → jM → Prop) : Prop := (jL (M o 5) (fun x1 => (jL (jU M o 5 0) (fun M2 => (k x1 M2)))))
set_option maxHeartbeats 4000000 in
set_option maxRecDepth 100000 in
theorem m_X7_clearText {l : Launch} {G : jG} {M : jM} {o : Int} {k : Int → jM → Prop} (o_M : jOK M) (k_o : jK o = 8) (h : w_X7_clearText M o k) : Met l yX7_clearText (wsG yX7_clearText cX7_clearText 2 (some .int)) (rmm 0 0) (jPc G M [.ref (jD G o)]) (qI G k) 0 0 (gA G) := by
  refine jm_start RX7 rfl (by decide) (Nat.le_of_ble_eq_true rfl) o_M ?_
  intro p e s m args below meth c ls C hr hlocks hl B
  have hl : lv_has ls 2 [(0, .ref (jD G o))] := hl
  unfold w_X7_clearText at h
  refine lv_aload_n C.1 C.2.1 dX7_clearText_0 rfl (lv_at hl 0 rfl) ?_
  refine gf_X7_148 C B k_o dX7_clearText_1 ?_
  refine jr_nm h (o_M o 5).1 (fun x1 h r_x1 => ?_)
  refine lv_istore_n (lv' := [(1, .int (jI x1)), (0, .ref (jD G o))]) C.1 C.2.1 dX7_clearText_4 rfl hl (by decide) rfl (fun ls hl => ?_)
  refine lv_aload_n C.1 C.2.1 dX7_clearText_5 rfl (lv_at hl 1 rfl) ?_
  refine jr_iconst C dX7_clearText_6 ?_
  refine pf_X7_148 C B k_o (jkc rfl) h dX7_clearText_7 (fun M2 _ _ h B => ?_)
  have o_M2 := B.2.2
  refine lv_iload_n C.1 C.2.1 dX7_clearText_10 rfl (lv_at hl 0 rfl) ?_
  exact jr_iret C B hr hlocks r_x1 h dX7_clearText_11
theorem cl_X7_clearText {p : Program} {l : Launch} {e : Env} {R : Room} {s : State} {m : MethodId} {args : Array Value} {below : List Frame} {meth : Method} {c : Code} {H : Heap} {locs : List Loc} {cells slots : Nat} {Q : State → Prop} {cc : ByteArray} {nL : Nat} {own : String} {G : jG} {H0 : Heap} {pc idx : Nat} {ls : Array Slot} {rest : List Value} {M : jM} {o : Int} {k : Int → jM → Prop} (C : Cx G p s args m c cc nL own) (hl : ls.size = nL) (B : Hp G M H0 H locs) (q1 : Cond.methodLink own idx yX7_clearText ∈ tb) (hR : (rmm 0 0).frames + 1 ≤ R.frames ∧ 8 + (2 + 11) + (rmm 0 0).locals ≤ R.locals) (hcs : cells ≤ R.cells ∧ slots ≤ R.slots) (hW : (rest.map fun v => v.category).sum ≤ 8) (k_o : jK o = 8) (h : w_X7_clearText M o k) (hdg : decode cc pc = .ok (.invokevirtual idx, 3)) (kk : ∀ (r : Int) (M' : jM), jR r → ∀ (H1 : Heap) (locs1 : List Loc), k r M' → Hp G M' H0 H1 locs1 → W p l e R s m args below meth c H1 locs1 cells slots Q (F0 m (pc + 3) ls (.int (jI r) :: rest))) : W p l e R s m args below meth c H locs cells slots Q (F0 m pc ls (.ref (jD G o) :: rest)) :=
  jr_callI B (jr_runV (o := o) (As := []) (n := 0) C hl B (m_X7_clearText B.2.2 k_o h) (jE8 k_o) (by omega) rfl q1 q_885 q_886 q_887 q_8 ⟨by decide, by decide, by decide +kernel⟩ rfl ⟨rfl, rfl⟩ hR hcs rfl hW hdg) (fun r M' H1 locs1 hr hk B1 => kk r M' hr H1 locs1 hk B1)
def w_X7_here (M : jM) (o : Int) (k : Int → Prop) : Prop := (if (M o 8) < (M o 5) then (jB (M o 8) 90 ∧ (k (M (o + 4) (M o 8)))) else (k 0))
set_option maxHeartbeats 4000000 in
set_option maxRecDepth 100000 in
theorem m_X7_here {l : Launch} {G : jG} {M : jM} {o : Int} {k : Int → Prop} (o_M : jOK M) (k_o : jK o = 8) (h : w_X7_here M o k) : Met l yX7_here (wsG yX7_here cX7_here 1 (some .int)) (rmm 0 0) (jPc G M [.ref (jD G o)]) (qI G (fun r M' => M' = M ∧ k r)) 0 0 (gA G) := by
  refine jm_start RX7 rfl (by decide) (Nat.le_of_ble_eq_true rfl) o_M ?_
  intro p e s m args below meth c ls C hr hlocks hl B
  have hl : lv_has ls 1 [(0, .ref (jD G o))] := hl
  unfold w_X7_here at h
  refine lv_aload_n C.1 C.2.1 dX7_here_0 rfl (lv_at hl 0 rfl) ?_
  refine gf_X7_151 C B k_o dX7_here_1 ?_
  refine lv_aload_n C.1 C.2.1 dX7_here_4 rfl (lv_at hl 0 rfl) ?_
  refine gf_X7_148 C B k_o dX7_here_5 ?_
  refine jr_icmp_ge (tgt := 23) C (o_M o 8).1 (o_M o 5).1 h dX7_here_8 (by decide) (fun hc8 h => ?_) (fun hc8 h => ?_)
  · refine lv_aload_n C.1 C.2.1 dX7_here_11 rfl (lv_at hl 0 rfl) ?_
    refine gf_X7_19 C B k_o dX7_here_12 ?_
    refine lv_aload_n C.1 C.2.1 dX7_here_15 rfl (lv_at hl 0 rfl) ?_
    refine gf_X7_151 C B k_o dX7_here_16 ?_
    obtain ⟨g1, h⟩ := h
    refine jr_iald C B 90 (jk1 (ko_X7_4 k_o) rfl) (jk2 (ko_X7_4 k_o) rfl) (o_M o 8).1 g1 dX7_here_19 ?_
    refine lv_goto (tgt := 24) C.1 C.2.1 dX7_here_20 (by decide) ?_
    exact jr_iret C B hr hlocks (o_M (o + 4) (M o 8)).1 ⟨rfl, h⟩ dX7_here_24
  · refine jr_iconst C dX7_here_23 ?_
    exact jr_iret C B hr hlocks (jkc rfl) ⟨rfl, h⟩ dX7_here_24
theorem cl_X7_here {p : Program} {l : Launch} {e : Env} {R : Room} {s : State} {m : MethodId} {args : Array Value} {below : List Frame} {meth : Method} {c : Code} {H : Heap} {locs : List Loc} {cells slots : Nat} {Q : State → Prop} {cc : ByteArray} {nL : Nat} {own : String} {G : jG} {H0 : Heap} {pc idx : Nat} {ls : Array Slot} {rest : List Value} {M : jM} {o : Int} {k : Int → Prop} (C : Cx G p s args m c cc nL own) (hl : ls.size = nL) (B : Hp G M H0 H locs) (q1 : Cond.methodLink own idx yX7_here ∈ tb) (hR : (rmm 0 0).frames + 1 ≤ R.frames ∧ 8 + (1 + 11) + (rmm 0 0).locals ≤ R.locals) (hcs : cells ≤ R.cells ∧ slots ≤ R.slots) (hW : (rest.map fun v => v.category).sum ≤ 8) (k_o : jK o = 8) (h : w_X7_here M o k) (hdg : decode cc pc = .ok (.invokevirtual idx, 3)) (kk : ∀ (r : Int), jR r → ∀ (H1 : Heap) (locs1 : List Loc), k r → Hp G M H0 H1 locs1 → W p l e R s m args below meth c H1 locs1 cells slots Q (F0 m (pc + 3) ls (.int (jI r) :: rest))) : W p l e R s m args below meth c H locs cells slots Q (F0 m pc ls (.ref (jD G o) :: rest)) :=
  jr_callI B (jr_runV (o := o) (As := []) (n := 0) C hl B (m_X7_here B.2.2 k_o h) (jE8 k_o) (by omega) rfl q1 q_899 qs_47 q_900 q_8 ⟨by decide, by decide, by decide +kernel⟩ rfl ⟨rfl, rfl⟩ hR hcs rfl hW hdg) (fun r M' H1 locs1 hr hk B1 => by obtain ⟨rfl, hk⟩ := hk; exact kk r hr H1 locs1 hk B1)
def w_X7_takes (M : jM) (o : Int) (a1 : Int) (k : jM → Prop) : Prop := (if (M o 9) = 0 then (jL (jU M o 9 0) (fun M1 => (if (M1 o 9) = 0 then (jL (jU M1 o 8 (jW ((M1 o 8) + 0))) (fun M2 => (k M2))) else (jL (jU M1 o 8 (jW ((M1 o 8) + 1))) (fun M3 => (k M3)))))) else (if a1 = 0 then (jL (jU M o 9 0) (fun M4 => (if (M4 o 9) = 0 then (jL (jU M4 o 8 (jW ((M4 o 8) + 0))) (fun M5 => (k M5))) else (jL (jU M4 o 8 (jW ((M4 o 8) + 1))) (fun M6 => (k M6)))))) else (jL (jU M o 9 1) (fun M7 => (if (M7 o 9) = 0 then (jL (jU M7 o 8 (jW ((M7 o 8) + 0))) (fun M8 => (k M8))) else (jL (jU M7 o 8 (jW ((M7 o 8) + 1))) (fun M9 => (k M9))))))))
set_option maxHeartbeats 4000000 in
set_option maxRecDepth 100000 in
theorem m_X7_takes {l : Launch} {G : jG} {M : jM} {o a1 : Int} {k : jM → Prop} (o_M : jOK M) (k_o : jK o = 8) (z_a1 : a1 = 0 ∨ a1 = 1) (h : w_X7_takes M o a1 k) : Met l yX7_takes (wsG yX7_takes cX7_takes 2 none) (rmm 0 0) (jPc G M [.ref (jD G o), .int (jI a1)]) (qV G k) 0 0 (gA G) := by
  refine jm_start RX7 rfl (by decide) (Nat.le_of_ble_eq_true rfl) o_M ?_
  intro p e s m args below meth c ls C hr hlocks hl B
  have hl : lv_has ls 2 [(0, .ref (jD G o)), (1, .int (jI a1))] := hl
  unfold w_X7_takes at h
  refine lv_aload_n C.1 C.2.1 dX7_takes_0 rfl (lv_at hl 0 rfl) ?_
  refine lv_aload_n C.1 C.2.1 dX7_takes_1 rfl (lv_at hl 0 rfl) ?_
  refine gf_X7_154 C B k_o dX7_takes_2 ?_
  refine jr_if_eq (tgt := 16) C (zR (jz_X7_9 o_M k_o)) h dX7_takes_5 (by decide) (fun hc5 h => ?_) (fun hc5 h => ?_)
  · refine jr_iconst C dX7_takes_16 ?_
    refine pf_X7_154 C B k_o (Or.inl rfl) h dX7_takes_17 (fun M1 _ _ h B => ?_)
    have o_M1 := B.2.2
    refine lv_aload_n C.1 C.2.1 dX7_takes_20 rfl (lv_at hl 0 rfl) ?_
    refine lv_dup C.1 C.2.1 dX7_takes_21 rfl ?_
    refine gf_X7_151 C B k_o dX7_takes_22 ?_
    refine lv_aload_n C.1 C.2.1 dX7_takes_25 rfl (lv_at hl 0 rfl) ?_
    refine gf_X7_154 C B k_o dX7_takes_26 ?_
    refine jr_if_eq (tgt := 36) C (zR (jz_X7_9 o_M1 k_o)) h dX7_takes_29 (by decide) (fun hc29 h => ?_) (fun hc29 h => ?_)
    · refine jr_iconst C dX7_takes_36 ?_
      refine jr_iadd C dX7_takes_37 ?_
      refine pf_X7_151 C B k_o (jW_R _) h dX7_takes_38 (fun M2 _ _ h B => ?_)
      have o_M2 := B.2.2
      exact jr_vret C B hr hlocks h dX7_takes_41
    · refine jr_iconst C dX7_takes_32 ?_
      refine lv_goto (tgt := 37) C.1 C.2.1 dX7_takes_33 (by decide) ?_
      refine jr_iadd C dX7_takes_37 ?_
      refine pf_X7_151 C B k_o (jW_R _) h dX7_takes_38 (fun M3 _ _ h B => ?_)
      have o_M3 := B.2.2
      exact jr_vret C B hr hlocks h dX7_takes_41
  · refine lv_iload_n C.1 C.2.1 dX7_takes_8 rfl (lv_at hl 1 rfl) ?_
    refine jr_if_eq (tgt := 16) C (zR z_a1) h dX7_takes_9 (by decide) (fun hc9 h => ?_) (fun hc9 h => ?_)
    · refine jr_iconst C dX7_takes_16 ?_
      refine pf_X7_154 C B k_o (Or.inl rfl) h dX7_takes_17 (fun M4 _ _ h B => ?_)
      have o_M4 := B.2.2
      refine lv_aload_n C.1 C.2.1 dX7_takes_20 rfl (lv_at hl 0 rfl) ?_
      refine lv_dup C.1 C.2.1 dX7_takes_21 rfl ?_
      refine gf_X7_151 C B k_o dX7_takes_22 ?_
      refine lv_aload_n C.1 C.2.1 dX7_takes_25 rfl (lv_at hl 0 rfl) ?_
      refine gf_X7_154 C B k_o dX7_takes_26 ?_
      refine jr_if_eq (tgt := 36) C (zR (jz_X7_9 o_M4 k_o)) h dX7_takes_29 (by decide) (fun hc29 h => ?_) (fun hc29 h => ?_)
      · refine jr_iconst C dX7_takes_36 ?_
        refine jr_iadd C dX7_takes_37 ?_
        refine pf_X7_151 C B k_o (jW_R _) h dX7_takes_38 (fun M5 _ _ h B => ?_)
        have o_M5 := B.2.2
        exact jr_vret C B hr hlocks h dX7_takes_41
      · refine jr_iconst C dX7_takes_32 ?_
        refine lv_goto (tgt := 37) C.1 C.2.1 dX7_takes_33 (by decide) ?_
        refine jr_iadd C dX7_takes_37 ?_
        refine pf_X7_151 C B k_o (jW_R _) h dX7_takes_38 (fun M6 _ _ h B => ?_)
        have o_M6 := B.2.2
        exact jr_vret C B hr hlocks h dX7_takes_41
    · refine jr_iconst C dX7_takes_12 ?_
      refine lv_goto (tgt := 17) C.1 C.2.1 dX7_takes_13 (by decide) ?_
      refine pf_X7_154 C B k_o (Or.inr rfl) h dX7_takes_17 (fun M7 _ _ h B => ?_)
      have o_M7 := B.2.2
      refine lv_aload_n C.1 C.2.1 dX7_takes_20 rfl (lv_at hl 0 rfl) ?_
      refine lv_dup C.1 C.2.1 dX7_takes_21 rfl ?_
      refine gf_X7_151 C B k_o dX7_takes_22 ?_
      refine lv_aload_n C.1 C.2.1 dX7_takes_25 rfl (lv_at hl 0 rfl) ?_
      refine gf_X7_154 C B k_o dX7_takes_26 ?_
      refine jr_if_eq (tgt := 36) C (zR (jz_X7_9 o_M7 k_o)) h dX7_takes_29 (by decide) (fun hc29 h => ?_) (fun hc29 h => ?_)
      · refine jr_iconst C dX7_takes_36 ?_
        refine jr_iadd C dX7_takes_37 ?_
        refine pf_X7_151 C B k_o (jW_R _) h dX7_takes_38 (fun M8 _ _ h B => ?_)
        have o_M8 := B.2.2
        exact jr_vret C B hr hlocks h dX7_takes_41
      · refine jr_iconst C dX7_takes_32 ?_
        refine lv_goto (tgt := 37) C.1 C.2.1 dX7_takes_33 (by decide) ?_
        refine jr_iadd C dX7_takes_37 ?_
        refine pf_X7_151 C B k_o (jW_R _) h dX7_takes_38 (fun M9 _ _ h B => ?_)
        have o_M9 := B.2.2
        exact jr_vret C B hr hlocks h dX7_takes_41
theorem cl_X7_takes {p : Program} {l : Launch} {e : Env} {R : Room} {s : State} {m : MethodId} {args : Array Value} {below : List Frame} {meth : Method} {c : Code} {H : Heap} {locs : List Loc} {cells slots : Nat} {Q : State → Prop} {cc : ByteArray} {nL : Nat} {own : String} {G : jG} {H0 : Heap} {pc idx : Nat} {ls : Array Slot} {rest : List Value} {M : jM} {o a1 : Int} {k : jM → Prop} (C : Cx G p s args m c cc nL own) (hl : ls.size = nL) (B : Hp G M H0 H locs) (q1 : Cond.methodLink own idx yX7_takes ∈ tb) (hR : (rmm 0 0).frames + 1 ≤ R.frames ∧ 8 + (2 + 11) + (rmm 0 0).locals ≤ R.locals) (hcs : cells ≤ R.cells ∧ slots ≤ R.slots) (hW : (rest.map fun v => v.category).sum ≤ 8) (k_o : jK o = 8) (z_a1 : a1 = 0 ∨ a1 = 1) (h : w_X7_takes M o a1 k) (hdg : decode cc pc = .ok (.invokevirtual idx, 3)) (kk : ∀ (M' : jM) (H1 : Heap) (locs1 : List Loc), k M' → Hp G M' H0 H1 locs1 → W p l e R s m args below meth c H1 locs1 cells slots Q (F0 m (pc + 3) ls rest)) : W p l e R s m args below meth c H locs cells slots Q (F0 m pc ls (.int (jI a1) :: .ref (jD G o) :: rest)) :=
  jr_callV B (jr_runV (o := o) (As := [.int (jI a1)]) (n := 1) C hl B (m_X7_takes B.2.2 k_o z_a1 h) (jE8 k_o) (by omega) rfl q1 q_903 qs_48 q_904 q_8 ⟨by decide, by decide, by decide +kernel⟩ rfl ⟨rfl, rfl⟩ hR hcs rfl hW hdg) (fun M' H1 locs1 hk B1 => kk M' H1 locs1 hk B1)
def lp_X7_takesNumber_56 (o : Int) (kx56 : Int → jM → Prop) : Nat → Int → jM → Prop
  | 0, _, _ => False
  | n + 1, x12, M13 => (if (M13 o 9) = 0 then (kx56 x12 M13) else (if x12 ≤ 0 then (kx56 x12 M13) else (w_X7_here M13 o (fun x16 => (w_X7_in x16 48 57 (fun x17 => (if x17 = 0 then (kx56 x12 M13) else (w_X7_here M13 o (fun x18 => (if (jW ((jW ((jW (10 * x12)) + x18)) - 48)) ≤ 999 then (w_X7_here M13 o (fun x19 => (jL (jW ((jW ((jW (10 * x12)) + x19)) - 48)) (fun x20 => (jL (jU M13 o 8 (jW ((M13 o 8) + 1))) (fun M21 => (lp_X7_takesNumber_56 o kx56 n x20 M21))))))) else (kx56 x12 M13)))))))))))
def w_X7_takesNumber (N : Nat) (M : jM) (o : Int) (k : Int → jM → Prop) : Prop := (w_X7_here M o (fun x1 => (jL (fun (x2 : Int) => (jL (fun (M5 : jM) => (w_X7_here M5 o (fun x6 => (jL (jW (x6 - 48)) (fun x7 => (jL (fun (x8 : Int) => (w_X7_in x7 x8 9 (fun x10 => (w_X7_takes M5 o x10 (fun M11 => (lp_X7_takesNumber_56 o (fun (x14 : Int) (M15 : jM) => (if x2 = 0 then (k x14 M15) else (k (jW (-x14)) M15))) N x7 M11)))))) (fun j40_9 => (if x2 = 0 then (j40_9 0) else (j40_9 1))))))))) (fun j16_4 => (if x2 = 0 then (j16_4 M) else (jL (jU M o 8 (jW ((M o 8) + 1))) (fun M22 => (j16_4 M22))))))) (fun j6_3 => (if x1 = 45 then (j6_3 1) else (j6_3 0))))))
set_option maxHeartbeats 4000000 in
set_option maxRecDepth 100000 in
theorem m_X7_takesNumber {l : Launch} {G : jG} {N : Nat} {M : jM} {o : Int} {k : Int → jM → Prop} (o_M : jOK M) (k_o : jK o = 8) (h : w_X7_takesNumber N M o k) : Met l yX7_takesNumber (wsG yX7_takesNumber cX7_takesNumber 3 (some .int)) (rmm 1 22) (jPc G M [.ref (jD G o)]) (qI G k) 0 0 (gA G) := by
  refine jm_start RX7 rfl (by decide) (Nat.le_of_ble_eq_true rfl) o_M ?_
  intro p e s m args below meth c ls C hr hlocks hl B
  have hl : lv_has ls 3 [(0, .ref (jD G o))] := hl
  unfold w_X7_takesNumber at h
  refine lv_aload_n C.1 C.2.1 dX7_takesNumber_0 rfl (lv_at hl 0 rfl) ?_
  refine cl_X7_here C hl.1 B q_897 ⟨Nat.le_of_ble_eq_true rfl, Nat.le_of_ble_eq_true rfl⟩ ⟨Nat.zero_le _, Nat.zero_le _⟩ (Nat.le_of_ble_eq_true rfl) k_o h dX7_takesNumber_1 (fun x1 r_x1 _ _ h B => ?_)
  refine jr_bipush C dX7_takesNumber_4 (by decide) ?_
  obtain ⟨j6_3, hj6_3, h⟩ := jx_join (P := fun j6_3 : Int → Prop => ∀ (x2 : Int) (H : Heap) (locs : List Loc) (ls : Array Slot), j6_3 x2 → (x2 = 0 ∨ x2 = 1) → Hp G M s.heap H locs → lv_has ls 3 [(0, .ref (jD G o))] → W p l e (rmm 1 22) s m args below meth c H locs 0 0 (MQ below (qI G k) args s 0 0 (gA G)) (F0 m 14 ls [.int (jI x2)])) h (by
    intro x2 H locs ls h z_x2 B hl
    refine lv_istore_n (lv' := [(1, .int (jI x2)), (0, .ref (jD G o))]) C.1 C.2.1 dX7_takesNumber_14 rfl hl (by decide) rfl (fun ls hl => ?_)
    refine lv_iload_n C.1 C.2.1 dX7_takesNumber_15 rfl (lv_at hl 0 rfl) ?_
    obtain ⟨j16_4, hj16_4, h⟩ := jx_join (P := fun j16_4 : jM → Prop => ∀ (M5 : jM) (H : Heap) (locs : List Loc) (ls : Array Slot), j16_4 M5 → Hp G M5 s.heap H locs → lv_has ls 3 [(1, .int (jI x2)), (0, .ref (jD G o))] → W p l e (rmm 1 22) s m args below meth c H locs 0 0 (MQ below (qI G k) args s 0 0 (gA G)) (F0 m 29 ls [])) h (by
      intro M5 H locs ls h  B hl
      have o_M5 := B.2.2
      refine lv_aload_n C.1 C.2.1 dX7_takesNumber_29 rfl (lv_at hl 1 rfl) ?_
      refine cl_X7_here C hl.1 B q_897 ⟨Nat.le_of_ble_eq_true rfl, Nat.le_of_ble_eq_true rfl⟩ ⟨Nat.zero_le _, Nat.zero_le _⟩ (Nat.le_of_ble_eq_true rfl) k_o h dX7_takesNumber_30 (fun x6 r_x6 _ _ h B => ?_)
      refine jr_bipush C dX7_takesNumber_33 (by decide) ?_
      refine jr_isub C dX7_takesNumber_35 ?_
      refine jr_nm h (jW_R _) (fun x7 h r_x7 => ?_)
      refine lv_istore_n (lv' := [(2, .int (jI x7)), (1, .int (jI x2)), (0, .ref (jD G o))]) C.1 C.2.1 dX7_takesNumber_36 rfl hl (by decide) rfl (fun ls hl => ?_)
      refine lv_aload_n C.1 C.2.1 dX7_takesNumber_37 rfl (lv_at hl 2 rfl) ?_
      refine lv_iload_n C.1 C.2.1 dX7_takesNumber_38 rfl (lv_at hl 0 rfl) ?_
      refine lv_iload_n C.1 C.2.1 dX7_takesNumber_39 rfl (lv_at hl 1 rfl) ?_
      obtain ⟨j40_9, hj40_9, h⟩ := jx_join (P := fun j40_9 : Int → Prop => ∀ (x8 : Int) (H : Heap) (locs : List Loc) (ls : Array Slot), j40_9 x8 → (x8 = 0 ∨ x8 = 1) → Hp G M5 s.heap H locs → lv_has ls 3 [(2, .int (jI x7)), (1, .int (jI x2)), (0, .ref (jD G o))] → W p l e (rmm 1 22) s m args below meth c H locs 0 0 (MQ below (qI G k) args s 0 0 (gA G)) (F0 m 48 ls [.int (jI x8), .int (jI x7), .ref (jD G o)])) h (by
        intro x8 H locs ls h z_x8 B hl
        refine jr_bipush C dX7_takesNumber_48 (by decide) ?_
        refine cl_X7_in C hl.1 B q_745 ⟨Nat.le_of_ble_eq_true rfl, Nat.le_of_ble_eq_true rfl⟩ ⟨Nat.zero_le _, Nat.zero_le _⟩ (Nat.le_of_ble_eq_true rfl) r_x7 (zR z_x8) (jkc rfl) h dX7_takesNumber_50 (fun x10 z_x10 _ _ h B => ?_)
        refine cl_X7_takes C hl.1 B q_901 ⟨Nat.le_of_ble_eq_true rfl, Nat.le_of_ble_eq_true rfl⟩ ⟨Nat.zero_le _, Nat.zero_le _⟩ (Nat.le_of_ble_eq_true rfl) k_o z_x10 h dX7_takesNumber_53 (fun M11 _ _ h B => ?_)
        have o_M11 := B.2.2
        obtain ⟨kx56, hkx56, h⟩ : ∃ kx56 : Int → jM → Prop, (∀ (x14 : Int) (M15 : jM) (H : Heap) (locs : List Loc) (ls : Array Slot), kx56 x14 M15 → jR x14 → Hp G M15 s.heap H locs → lv_has ls 3 [(2, .int (jI x14)), (1, .int (jI x2))] → W p l e (rmm 1 22) s m args below meth c H locs 0 0 (MQ below (qI G k) args s 0 0 (gA G)) (F0 m 125 ls [])) ∧ lp_X7_takesNumber_56 o kx56 N x7 M11 := by
          refine ⟨_, ?_, h⟩
          intro x14 M15 H locs ls h r_x14 B hl
          have o_M15 := B.2.2
          refine lv_iload_n C.1 C.2.1 dX7_takesNumber_125 rfl (lv_at hl 1 rfl) ?_
          refine jr_if_eq (tgt := 134) C (zR z_x2) h dX7_takesNumber_126 (by decide) (fun hc126 h => ?_) (fun hc126 h => ?_)
          · refine lv_iload_n C.1 C.2.1 dX7_takesNumber_134 rfl (lv_at hl 0 rfl) ?_
            exact jr_iret C B hr hlocks r_x14 h dX7_takesNumber_135
          · refine lv_iload_n C.1 C.2.1 dX7_takesNumber_129 rfl (lv_at hl 0 rfl) ?_
            refine jr_ineg C dX7_takesNumber_130 ?_
            refine lv_goto (tgt := 135) C.1 C.2.1 dX7_takesNumber_131 (by decide) ?_
            exact jr_iret C B hr hlocks (jW_R _) h dX7_takesNumber_135
        have hL56 : ∀ (n : Nat) (x12 : Int) (M13 : jM) (H : Heap) (locs : List Loc) (ls : Array Slot), lp_X7_takesNumber_56 o kx56 n x12 M13 → jR x12 → Hp G M13 s.heap H locs → lv_has ls 3 [(2, .int (jI x12)), (1, .int (jI x2)), (0, .ref (jD G o))] → W p l e (rmm 1 22) s m args below meth c H locs 0 0 (MQ below (qI G k) args s 0 0 (gA G)) (F0 m 56 ls []) := by
          intro n
          induction n with
          | zero => intro x12 M13 H locs ls h; exact (show False from h).elim
          | succ n ih56 =>
            intro x12 M13 H locs ls h r_x12 B hl
            have o_M13 := B.2.2
            rw [lp_X7_takesNumber_56] at h
            refine lv_aload_n C.1 C.2.1 dX7_takesNumber_56 rfl (lv_at hl 2 rfl) ?_
            refine gf_X7_154 C B k_o dX7_takesNumber_57 ?_
            refine jr_if_eq (tgt := 125) C (zR (jz_X7_9 o_M13 k_o)) h dX7_takesNumber_60 (by decide) (fun hc60 h => ?_) (fun hc60 h => ?_)
            · exact hkx56 _ _ _ _ _ h r_x12 B (lv_sub hl [0, 1] rfl)
            · refine lv_iload_n C.1 C.2.1 dX7_takesNumber_63 rfl (lv_at hl 0 rfl) ?_
              refine jr_if_le (tgt := 125) C r_x12 h dX7_takesNumber_64 (by decide) (fun hc64 h => ?_) (fun hc64 h => ?_)
              · exact hkx56 _ _ _ _ _ h r_x12 B (lv_sub hl [0, 1] rfl)
              · refine lv_aload_n C.1 C.2.1 dX7_takesNumber_67 rfl (lv_at hl 2 rfl) ?_
                refine cl_X7_here C hl.1 B q_897 ⟨Nat.le_of_ble_eq_true rfl, Nat.le_of_ble_eq_true rfl⟩ ⟨Nat.zero_le _, Nat.zero_le _⟩ (Nat.le_of_ble_eq_true rfl) k_o h dX7_takesNumber_68 (fun x16 r_x16 _ _ h B => ?_)
                refine jr_bipush C dX7_takesNumber_71 (by decide) ?_
                refine jr_bipush C dX7_takesNumber_73 (by decide) ?_
                refine cl_X7_in C hl.1 B q_745 ⟨Nat.le_of_ble_eq_true rfl, Nat.le_of_ble_eq_true rfl⟩ ⟨Nat.zero_le _, Nat.zero_le _⟩ (Nat.le_of_ble_eq_true rfl) r_x16 (jkc rfl) (jkc rfl) h dX7_takesNumber_75 (fun x17 z_x17 _ _ h B => ?_)
                refine jr_if_eq (tgt := 125) C (zR z_x17) h dX7_takesNumber_78 (by decide) (fun hc78 h => ?_) (fun hc78 h => ?_)
                · exact hkx56 _ _ _ _ _ h r_x12 B (lv_sub hl [0, 1] rfl)
                · refine jr_bipush C dX7_takesNumber_81 (by decide) ?_
                  refine lv_iload_n C.1 C.2.1 dX7_takesNumber_83 rfl (lv_at hl 0 rfl) ?_
                  refine jr_imul C dX7_takesNumber_84 ?_
                  refine lv_aload_n C.1 C.2.1 dX7_takesNumber_85 rfl (lv_at hl 2 rfl) ?_
                  refine cl_X7_here C hl.1 B q_897 ⟨Nat.le_of_ble_eq_true rfl, Nat.le_of_ble_eq_true rfl⟩ ⟨Nat.zero_le _, Nat.zero_le _⟩ (Nat.le_of_ble_eq_true rfl) k_o h dX7_takesNumber_86 (fun x18 r_x18 _ _ h B => ?_)
                  refine jr_iadd C dX7_takesNumber_89 ?_
                  refine jr_bipush C dX7_takesNumber_90 (by decide) ?_
                  refine jr_isub C dX7_takesNumber_92 ?_
                  refine jr_sipush C dX7_takesNumber_93 (by decide) ?_
                  refine jr_icmp_gt (tgt := 125) C (jW_R _) (jkc rfl) h dX7_takesNumber_96 (by decide) (fun hc96 h => ?_) (fun hc96 h => ?_)
                  · refine jr_bipush C dX7_takesNumber_99 (by decide) ?_
                    refine lv_iload_n C.1 C.2.1 dX7_takesNumber_101 rfl (lv_at hl 0 rfl) ?_
                    refine jr_imul C dX7_takesNumber_102 ?_
                    refine lv_aload_n C.1 C.2.1 dX7_takesNumber_103 rfl (lv_at hl 2 rfl) ?_
                    refine cl_X7_here C hl.1 B q_897 ⟨Nat.le_of_ble_eq_true rfl, Nat.le_of_ble_eq_true rfl⟩ ⟨Nat.zero_le _, Nat.zero_le _⟩ (Nat.le_of_ble_eq_true rfl) k_o h dX7_takesNumber_104 (fun x19 r_x19 _ _ h B => ?_)
                    refine jr_iadd C dX7_takesNumber_107 ?_
                    refine jr_bipush C dX7_takesNumber_108 (by decide) ?_
                    refine jr_isub C dX7_takesNumber_110 ?_
                    refine jr_nm h (jW_R _) (fun x20 h r_x20 => ?_)
                    refine lv_istore_n (lv' := [(2, .int (jI x20)), (1, .int (jI x2)), (0, .ref (jD G o))]) C.1 C.2.1 dX7_takesNumber_111 rfl hl (by decide) rfl (fun ls hl => ?_)
                    refine lv_aload_n C.1 C.2.1 dX7_takesNumber_112 rfl (lv_at hl 2 rfl) ?_
                    refine lv_dup C.1 C.2.1 dX7_takesNumber_113 rfl ?_
                    refine gf_X7_151 C B k_o dX7_takesNumber_114 ?_
                    refine jr_iconst C dX7_takesNumber_117 ?_
                    refine jr_iadd C dX7_takesNumber_118 ?_
                    refine pf_X7_151 C B k_o (jW_R _) h dX7_takesNumber_119 (fun M21 _ _ h B => ?_)
                    have o_M21 := B.2.2
                    refine lv_goto (tgt := 56) C.1 C.2.1 dX7_takesNumber_122 (by decide) ?_
                    exact ih56 _ _ _ _ _ h r_x20 B (lv_sub hl [0, 1, 2] rfl)
                  · exact hkx56 _ _ _ _ _ h r_x12 B (lv_sub hl [0, 1] rfl)
        exact hL56 N _ _ _ _ _ h r_x7 B (lv_sub hl [0, 1, 2] rfl))
      refine jr_if_eq (tgt := 47) C (zR z_x2) h dX7_takesNumber_40 (by decide) (fun hc40 h => ?_) (fun hc40 h => ?_)
      · refine jr_iconst C dX7_takesNumber_47 ?_
        exact hj40_9 _ _ _ _ h (Or.inl rfl) B (lv_sub hl [0, 1, 2] rfl)
      · refine jr_iconst C dX7_takesNumber_43 ?_
        refine lv_goto (tgt := 48) C.1 C.2.1 dX7_takesNumber_44 (by decide) ?_
        exact hj40_9 _ _ _ _ h (Or.inr rfl) B (lv_sub hl [0, 1, 2] rfl))
    refine jr_if_eq (tgt := 29) C (zR z_x2) h dX7_takesNumber_16 (by decide) (fun hc16 h => ?_) (fun hc16 h => ?_)
    · exact hj16_4 _ _ _ _ h  B (lv_sub hl [0, 1] rfl)
    · refine lv_aload_n C.1 C.2.1 dX7_takesNumber_19 rfl (lv_at hl 1 rfl) ?_
      refine lv_dup C.1 C.2.1 dX7_takesNumber_20 rfl ?_
      refine gf_X7_151 C B k_o dX7_takesNumber_21 ?_
      refine jr_iconst C dX7_takesNumber_24 ?_
      refine jr_iadd C dX7_takesNumber_25 ?_
      refine pf_X7_151 C B k_o (jW_R _) h dX7_takesNumber_26 (fun M22 _ _ h B => ?_)
      have o_M22 := B.2.2
      exact hj16_4 _ _ _ _ h  B (lv_sub hl [0, 1] rfl))
  refine jr_icmp_ne (tgt := 13) C r_x1 (jkc rfl) h dX7_takesNumber_6 (by decide) (fun hc6 h => ?_) (fun hc6 h => ?_)
  · refine jr_iconst C dX7_takesNumber_9 ?_
    refine lv_goto (tgt := 14) C.1 C.2.1 dX7_takesNumber_10 (by decide) ?_
    exact hj6_3 _ _ _ _ h (Or.inr rfl) B (lv_sub hl [0] rfl)
  · refine jr_iconst C dX7_takesNumber_13 ?_
    exact hj6_3 _ _ _ _ h (Or.inl rfl) B (lv_sub hl [0] rfl)
theorem cl_X7_takesNumber {p : Program} {l : Launch} {e : Env} {R : Room} {s : State} {m : MethodId} {args : Array Value} {below : List Frame} {meth : Method} {c : Code} {H : Heap} {locs : List Loc} {cells slots : Nat} {Q : State → Prop} {cc : ByteArray} {nL : Nat} {own : String} {G : jG} {H0 : Heap} {pc idx : Nat} {ls : Array Slot} {rest : List Value} {N : Nat} {M : jM} {o : Int} {k : Int → jM → Prop} (C : Cx G p s args m c cc nL own) (hl : ls.size = nL) (B : Hp G M H0 H locs) (q1 : Cond.methodLink own idx yX7_takesNumber ∈ tb) (hR : (rmm 1 22).frames + 1 ≤ R.frames ∧ 8 + (3 + 11) + (rmm 1 22).locals ≤ R.locals) (hcs : cells ≤ R.cells ∧ slots ≤ R.slots) (hW : (rest.map fun v => v.category).sum ≤ 8) (k_o : jK o = 8) (h : w_X7_takesNumber N M o k) (hdg : decode cc pc = .ok (.invokevirtual idx, 3)) (kk : ∀ (r : Int) (M' : jM), jR r → ∀ (H1 : Heap) (locs1 : List Loc), k r M' → Hp G M' H0 H1 locs1 → W p l e R s m args below meth c H1 locs1 cells slots Q (F0 m (pc + 3) ls (.int (jI r) :: rest))) : W p l e R s m args below meth c H locs cells slots Q (F0 m pc ls (.ref (jD G o) :: rest)) :=
  jr_callI B (jr_runV (o := o) (As := []) (n := 0) C hl B (m_X7_takesNumber B.2.2 k_o h) (jE8 k_o) (by omega) rfl q1 q_915 qs_51 q_916 q_8 ⟨by decide, by decide, by decide +kernel⟩ rfl ⟨rfl, rfl⟩ hR hcs rfl hW hdg) (fun r M' H1 locs1 hr hk B1 => kk r M' hr H1 locs1 hk B1)
