def lp_X4_copyState_10 (o : Int) (a1 : Int) (kx10 : jM → Prop) : Nat → Int → jM → Prop
  | 0, _, _ => False
  | n + 1, x2, M3 => (if x2 < (M3 o 1) then (jB x2 10 ∧ (jB x2 10 ∧ (w_X1_copyRecord M3 (M3 (o + 1) x2) (M3 (a1 + 1) x2) (fun M14 => (jL (jW (x2 + 1)) (fun x15 => (lp_X4_copyState_10 o a1 kx10 n x15 M14))))))) else (kx10 M3))
def w_X4_copyState (N : Nat) (M : jM) (o : Int) (a1 : Int) (k : jM → Prop) : Prop := (jL (jU M o 1 (M a1 1)) (fun M1 => (lp_X4_copyState_10 o a1 (fun (M4 : jM) => (jBc 0 0 4 4 4 ∧ jL (jC M4 (a1 + 42) 0 (o + 42) 0 4) (fun M5 => (jBc 0 0 6 6 6 ∧ jL (jC M5 (a1 + 43) 0 (o + 43) 0 6) (fun M6 => (jBc 0 0 6 6 6 ∧ jL (jC M6 (a1 + 44) 0 (o + 44) 0 6) (fun M7 => (jBc 0 0 6 6 6 ∧ jL (jC M7 (a1 + 45) 0 (o + 45) 0 6) (fun M8 => (jBc 0 0 800 800 800 ∧ jL (jC M8 (a1 + 46) 0 (o + 46) 0 800) (fun M9 => (k M9)))))))))))) N 0 M1)))
set_option maxHeartbeats 4000000 in
set_option maxRecDepth 100000 in
theorem m_X4_copyState {l : Launch} {G : jG} {N : Nat} {M : jM} {o a1 : Int} {k : jM → Prop} (o_M : jOK M) (k_o : jK o = 5) (k_a1 : jK a1 = 5) (h : w_X4_copyState N M o a1 k) : Met l yX4_copyState (wsG yX4_copyState cX4_copyState 3 none) (rmm 3 82) (jPc G M [.ref (jD G o), .ref (jD G a1)]) (qV G k) 0 0 (gA G) := by
  refine jm_start RX4 rfl (by decide) (Nat.le_of_ble_eq_true rfl) o_M ?_
  intro p e s m args below meth c ls C hr hlocks hl B
  have hl : lv_has ls 3 [(0, .ref (jD G o)), (1, .ref (jD G a1))] := hl
  unfold w_X4_copyState at h
  refine lv_aload_n C.1 C.2.1 dX4_copyState_0 rfl (lv_at hl 0 rfl) ?_
  refine lv_aload_n C.1 C.2.1 dX4_copyState_1 rfl (lv_at hl 1 rfl) ?_
  refine gf_X4_18 C B k_a1 dX4_copyState_2 ?_
  refine pf_X4_18 C B k_o (o_M a1 1).1 h dX4_copyState_5 (fun M1 _ _ h B => ?_)
  have o_M1 := B.2.2
  refine jr_iconst C dX4_copyState_8 ?_
  refine lv_istore_n (lv' := [(2, .int (jI 0)), (0, .ref (jD G o)), (1, .ref (jD G a1))]) C.1 C.2.1 dX4_copyState_9 rfl hl (by decide) rfl (fun ls hl => ?_)
  obtain ⟨kx10, hkx10, h⟩ : ∃ kx10 : jM → Prop, (∀ (M4 : jM) (H : Heap) (locs : List Loc) (ls : Array Slot), kx10 M4 → Hp G M4 s.heap H locs → lv_has ls 3 [(0, .ref (jD G o)), (1, .ref (jD G a1))] → W p l e (rmm 3 82) s m args below meth c H locs 0 0 (MQ below (qV G k) args s 0 0 (gA G)) (F0 m 39 ls [])) ∧ lp_X4_copyState_10 o a1 kx10 N 0 M1 := by
    refine ⟨_, ?_, h⟩
    intro M4 H locs ls h  B hl
    have o_M4 := B.2.2
    refine lv_aload_n C.1 C.2.1 dX4_copyState_39 rfl (lv_at hl 1 rfl) ?_
    refine gf_X4_22 C B k_a1 dX4_copyState_40 ?_
    refine jr_iconst C dX4_copyState_43 ?_
    refine lv_aload_n C.1 C.2.1 dX4_copyState_44 rfl (lv_at hl 0 rfl) ?_
    refine gf_X4_22 C B k_o dX4_copyState_45 ?_
    refine jr_iconst C dX4_copyState_48 ?_
    refine jr_iconst C dX4_copyState_49 ?_
    refine jr_copy C B hl.1 q_215 q_214 q_213 q_9 4 4 (Or.inr (jk1 (ko_X4_2 k_a1) rfl)) (jk3 (ko_X4_2 k_o) (ko_X4_2 k_a1) rfl) (jk2 (ko_X4_2 k_a1) rfl) (jk2 (ko_X4_2 k_o) rfl) (jkc rfl) (jkc rfl) (jkc rfl) h (Nat.le_of_ble_eq_true rfl) (Nat.le_of_ble_eq_true rfl) dX4_copyState_50 (fun M5 _ _ h B => ?_)
    have o_M5 := B.2.2
    refine lv_aload_n C.1 C.2.1 dX4_copyState_53 rfl (lv_at hl 1 rfl) ?_
    refine gf_X4_26 C B k_a1 dX4_copyState_54 ?_
    refine jr_iconst C dX4_copyState_57 ?_
    refine lv_aload_n C.1 C.2.1 dX4_copyState_58 rfl (lv_at hl 0 rfl) ?_
    refine gf_X4_26 C B k_o dX4_copyState_59 ?_
    refine jr_iconst C dX4_copyState_62 ?_
    refine jr_bipush C dX4_copyState_63 (by decide) ?_
    refine jr_copy C B hl.1 q_215 q_214 q_213 q_9 6 6 (Or.inl (jk1 (ko_X4_3 k_a1) rfl)) (jk3 (ko_X4_3 k_o) (ko_X4_3 k_a1) rfl) (jk2 (ko_X4_3 k_a1) rfl) (jk2 (ko_X4_3 k_o) rfl) (jkc rfl) (jkc rfl) (jkc rfl) h (Nat.le_of_ble_eq_true rfl) (Nat.le_of_ble_eq_true rfl) dX4_copyState_65 (fun M6 _ _ h B => ?_)
    have o_M6 := B.2.2
    refine lv_aload_n C.1 C.2.1 dX4_copyState_68 rfl (lv_at hl 1 rfl) ?_
    refine gf_X4_30 C B k_a1 dX4_copyState_69 ?_
    refine jr_iconst C dX4_copyState_72 ?_
    refine lv_aload_n C.1 C.2.1 dX4_copyState_73 rfl (lv_at hl 0 rfl) ?_
    refine gf_X4_30 C B k_o dX4_copyState_74 ?_
    refine jr_iconst C dX4_copyState_77 ?_
    refine jr_bipush C dX4_copyState_78 (by decide) ?_
    refine jr_copy C B hl.1 q_215 q_214 q_213 q_9 6 6 (Or.inl (jk1 (ko_X4_4 k_a1) rfl)) (jk3 (ko_X4_4 k_o) (ko_X4_4 k_a1) rfl) (jk2 (ko_X4_4 k_a1) rfl) (jk2 (ko_X4_4 k_o) rfl) (jkc rfl) (jkc rfl) (jkc rfl) h (Nat.le_of_ble_eq_true rfl) (Nat.le_of_ble_eq_true rfl) dX4_copyState_80 (fun M7 _ _ h B => ?_)
    have o_M7 := B.2.2
    refine lv_aload_n C.1 C.2.1 dX4_copyState_83 rfl (lv_at hl 1 rfl) ?_
    refine gf_X4_33 C B k_a1 dX4_copyState_84 ?_
    refine jr_iconst C dX4_copyState_87 ?_
    refine lv_aload_n C.1 C.2.1 dX4_copyState_88 rfl (lv_at hl 0 rfl) ?_
    refine gf_X4_33 C B k_o dX4_copyState_89 ?_
    refine jr_iconst C dX4_copyState_92 ?_
    refine jr_bipush C dX4_copyState_93 (by decide) ?_
    refine jr_copy C B hl.1 q_215 q_214 q_213 q_9 6 6 (Or.inl (jk1 (ko_X4_5 k_a1) rfl)) (jk3 (ko_X4_5 k_o) (ko_X4_5 k_a1) rfl) (jk2 (ko_X4_5 k_a1) rfl) (jk2 (ko_X4_5 k_o) rfl) (jkc rfl) (jkc rfl) (jkc rfl) h (Nat.le_of_ble_eq_true rfl) (Nat.le_of_ble_eq_true rfl) dX4_copyState_95 (fun M8 _ _ h B => ?_)
    have o_M8 := B.2.2
    refine lv_aload_n C.1 C.2.1 dX4_copyState_98 rfl (lv_at hl 1 rfl) ?_
    refine gf_X4_40 C B k_a1 dX4_copyState_99 ?_
    refine jr_iconst C dX4_copyState_102 ?_
    refine lv_aload_n C.1 C.2.1 dX4_copyState_103 rfl (lv_at hl 0 rfl) ?_
    refine gf_X4_40 C B k_o dX4_copyState_104 ?_
    refine jr_iconst C dX4_copyState_107 ?_
    refine jr_sipush C dX4_copyState_108 (by decide) ?_
    refine jr_copy C B hl.1 q_215 q_214 q_213 q_9 800 800 (Or.inr (jk1 (ko_X4_6 k_a1) rfl)) (jk3 (ko_X4_6 k_o) (ko_X4_6 k_a1) rfl) (jk2 (ko_X4_6 k_a1) rfl) (jk2 (ko_X4_6 k_o) rfl) (jkc rfl) (jkc rfl) (jkc rfl) h (Nat.le_of_ble_eq_true rfl) (Nat.le_of_ble_eq_true rfl) dX4_copyState_111 (fun M9 _ _ h B => ?_)
    have o_M9 := B.2.2
    exact jr_vret C B hr hlocks h dX4_copyState_114
  have hL10 : ∀ (n : Nat) (x2 : Int) (M3 : jM) (H : Heap) (locs : List Loc) (ls : Array Slot), lp_X4_copyState_10 o a1 kx10 n x2 M3 → jR x2 → Hp G M3 s.heap H locs → lv_has ls 3 [(2, .int (jI x2)), (0, .ref (jD G o)), (1, .ref (jD G a1))] → W p l e (rmm 3 82) s m args below meth c H locs 0 0 (MQ below (qV G k) args s 0 0 (gA G)) (F0 m 10 ls []) := by
    intro n
    induction n with
    | zero => intro x2 M3 H locs ls h; exact (show False from h).elim
    | succ n ih10 =>
      intro x2 M3 H locs ls h r_x2 B hl
      have o_M3 := B.2.2
      rw [lp_X4_copyState_10] at h
      refine lv_iload_n C.1 C.2.1 dX4_copyState_10 rfl (lv_at hl 0 rfl) ?_
      refine lv_aload_n C.1 C.2.1 dX4_copyState_11 rfl (lv_at hl 1 rfl) ?_
      refine gf_X4_18 C B k_o dX4_copyState_12 ?_
      refine jr_icmp_ge (tgt := 39) C r_x2 (o_M3 o 1).1 h dX4_copyState_15 (by decide) (fun hc15 h => ?_) (fun hc15 h => ?_)
      · refine lv_aload_n C.1 C.2.1 dX4_copyState_18 rfl (lv_at hl 1 rfl) ?_
        refine gf_X4_11 C B k_o dX4_copyState_19 ?_
        refine lv_iload_n C.1 C.2.1 dX4_copyState_22 rfl (lv_at hl 0 rfl) ?_
        obtain ⟨g10, h⟩ := h
        refine jr_rald C B 10 (jk1 (ko_X4_0 k_o) rfl) (jk2 (ko_X4_0 k_o) rfl) r_x2 g10 dX4_copyState_23 (fun kk11 => ?_)
        refine lv_aload_n C.1 C.2.1 dX4_copyState_24 rfl (lv_at hl 2 rfl) ?_
        refine gf_X4_11 C B k_a1 dX4_copyState_25 ?_
        refine lv_iload_n C.1 C.2.1 dX4_copyState_28 rfl (lv_at hl 0 rfl) ?_
        obtain ⟨g12, h⟩ := h
        refine jr_rald C B 10 (jk1 (ko_X4_0 k_a1) rfl) (jk2 (ko_X4_0 k_a1) rfl) r_x2 g12 dX4_copyState_29 (fun kk13 => ?_)
        refine cl_X1_copyRecord C hl.1 B q_204 ⟨Nat.le_of_ble_eq_true rfl, Nat.le_of_ble_eq_true rfl⟩ ⟨Nat.zero_le _, Nat.zero_le _⟩ (Nat.le_of_ble_eq_true rfl) kk11 kk13 h dX4_copyState_30 (fun M14 _ _ h B => ?_)
        have o_M14 := B.2.2
        refine jr_iinc (k := 0) (lv' := fun x15 => [(2, .int (jI x15)), (0, .ref (jD G o)), (1, .ref (jD G a1))]) C h hl rfl (by decide) (fun _ => rfl) dX4_copyState_33 (fun x15 h r_x15 ls hl => ?_)
        refine lv_goto (tgt := 10) C.1 C.2.1 dX4_copyState_36 (by decide) ?_
        exact ih10 _ _ _ _ _ h r_x15 B (lv_sub hl [0, 1, 2] rfl)
      · exact hkx10 _ _ _ _ h  B (lv_sub hl [1, 2] rfl)
  exact hL10 N _ _ _ _ _ h (jkc rfl) B (lv_sub hl [0, 1, 2] rfl)
theorem cl_X4_copyState {p : Program} {l : Launch} {e : Env} {R : Room} {s : State} {m : MethodId} {args : Array Value} {below : List Frame} {meth : Method} {c : Code} {H : Heap} {locs : List Loc} {cells slots : Nat} {Q : State → Prop} {cc : ByteArray} {nL : Nat} {own : String} {G : jG} {H0 : Heap} {pc idx : Nat} {ls : Array Slot} {rest : List Value} {N : Nat} {M : jM} {o a1 : Int} {k : jM → Prop} (C : Cx G p s args m c cc nL own) (hl : ls.size = nL) (B : Hp G M H0 H locs) (q1 : Cond.methodLink own idx yX4_copyState ∈ tb) (hR : (rmm 3 82).frames + 1 ≤ R.frames ∧ 8 + (3 + 11) + (rmm 3 82).locals ≤ R.locals) (hcs : cells ≤ R.cells ∧ slots ≤ R.slots) (hW : (rest.map fun v => v.category).sum ≤ 8) (k_o : jK o = 5) (k_a1 : jK a1 = 5) (h : w_X4_copyState N M o a1 k) (hdg : decode cc pc = .ok (.invokevirtual idx, 3)) (kk : ∀ (M' : jM) (H1 : Heap) (locs1 : List Loc), k M' → Hp G M' H0 H1 locs1 → W p l e R s m args below meth c H1 locs1 cells slots Q (F0 m (pc + 3) ls rest)) : W p l e R s m args below meth c H locs cells slots Q (F0 m pc ls (.ref (jD G a1) :: .ref (jD G o) :: rest)) :=
  jr_callV B (jr_runV (o := o) (As := [.ref (jD G a1)]) (n := 1) C hl B (m_X4_copyState B.2.2 k_o k_a1 h) (jE5 k_o) (by omega) rfl q1 q_201 q_202 q_203 q_2 ⟨by decide, by decide, by decide +kernel⟩ rfl ⟨rfl, rfl⟩ hR hcs rfl hW hdg) (fun M' H1 locs1 hk B1 => kk M' H1 locs1 hk B1)
def lp_X4_find_2 (o : Int) (a1 : Int) (M : jM) (k : Int → Prop) (kx2 : Prop) : Nat → Int → Prop
  | 0, _ => False
  | n + 1, x1 => (if x1 < (M o 1) then (jB x1 10 ∧ (if (M (M (o + 1) x1) 0) = a1 then (jB x1 10 ∧ (k (M (o + 1) x1))) else (jL (jW (x1 + 1)) (fun x6 => (lp_X4_find_2 o a1 M k kx2 n x6))))) else (kx2))
def w_X4_find (N : Nat) (M : jM) (o : Int) (a1 : Int) (k : Int → Prop) : Prop := (lp_X4_find_2 o a1 M k ((k (-1))) N 0)
set_option maxHeartbeats 4000000 in
set_option maxRecDepth 100000 in
theorem m_X4_find {l : Launch} {G : jG} {N : Nat} {M : jM} {o a1 : Int} {k : Int → Prop} (o_M : jOK M) (k_o : jK o = 5) (r_a1 : jR a1) (h : w_X4_find N M o a1 k) : Met l yX4_find (wsG yX4_find cX4_find 3 (some (.object "MultiValueFile$FileRecord"))) (rmm 0 0) (jPc G M [.ref (jD G o), .int (jI a1)]) (qQ G (fun r M' => M' = M ∧ k r)) 0 0 (gA G) := by
  refine jm_start RX4 rfl (by decide) (Nat.le_of_ble_eq_true rfl) o_M ?_
  intro p e s m args below meth c ls C hr hlocks hl B
  have hl : lv_has ls 3 [(0, .ref (jD G o)), (1, .int (jI a1))] := hl
  unfold w_X4_find at h
  refine jr_iconst C dX4_find_0 ?_
  refine lv_istore_n (lv' := [(2, .int (jI 0)), (0, .ref (jD G o)), (1, .int (jI a1))]) C.1 C.2.1 dX4_find_1 rfl hl (by decide) rfl (fun ls hl => ?_)
  obtain ⟨kx2, hkx2, h⟩ : ∃ kx2 : Prop, (∀ (H : Heap) (locs : List Loc) (ls : Array Slot), kx2 → Hp G M s.heap H locs → lv_has ls 3 [] → W p l e (rmm 0 0) s m args below meth c H locs 0 0 (MQ below (qQ G (fun r M' => M' = M ∧ k r)) args s 0 0 (gA G)) (F0 m 36 ls [])) ∧ lp_X4_find_2 o a1 M k kx2 N 0 := by
    refine ⟨_, ?_, h⟩
    intro H locs ls h  B hl
    refine lv_null C.1 C.2.1 dX4_find_36 ?_
    exact jr_nret C B hr hlocks ⟨rfl, h⟩ dX4_find_37
  have hL2 : ∀ (n : Nat) (x1 : Int) (H : Heap) (locs : List Loc) (ls : Array Slot), lp_X4_find_2 o a1 M k kx2 n x1 → jR x1 → Hp G M s.heap H locs → lv_has ls 3 [(2, .int (jI x1)), (0, .ref (jD G o)), (1, .int (jI a1))] → W p l e (rmm 0 0) s m args below meth c H locs 0 0 (MQ below (qQ G (fun r M' => M' = M ∧ k r)) args s 0 0 (gA G)) (F0 m 2 ls []) := by
    intro n
    induction n with
    | zero => intro x1 H locs ls h; exact (show False from h).elim
    | succ n ih2 =>
      intro x1 H locs ls h r_x1 B hl
      rw [lp_X4_find_2] at h
      refine lv_iload_n C.1 C.2.1 dX4_find_2 rfl (lv_at hl 0 rfl) ?_
      refine lv_aload_n C.1 C.2.1 dX4_find_3 rfl (lv_at hl 1 rfl) ?_
      refine gf_X4_18 C B k_o dX4_find_4 ?_
      refine jr_icmp_ge (tgt := 36) C r_x1 (o_M o 1).1 h dX4_find_7 (by decide) (fun hc7 h => ?_) (fun hc7 h => ?_)
      · refine lv_aload_n C.1 C.2.1 dX4_find_10 rfl (lv_at hl 1 rfl) ?_
        refine gf_X4_11 C B k_o dX4_find_11 ?_
        refine lv_iload_n C.1 C.2.1 dX4_find_14 rfl (lv_at hl 0 rfl) ?_
        obtain ⟨g2, h⟩ := h
        refine jr_rald C B 10 (jk1 (ko_X4_0 k_o) rfl) (jk2 (ko_X4_0 k_o) rfl) r_x1 g2 dX4_find_15 (fun kk3 => ?_)
        refine gf_X4_53 C B kk3 dX4_find_16 ?_
        refine lv_iload_n C.1 C.2.1 dX4_find_19 rfl (lv_at hl 2 rfl) ?_
        refine jr_icmp_ne (tgt := 30) C (o_M (M (o + 1) x1) 0).1 r_a1 h dX4_find_20 (by decide) (fun hc20 h => ?_) (fun hc20 h => ?_)
        · refine lv_aload_n C.1 C.2.1 dX4_find_23 rfl (lv_at hl 1 rfl) ?_
          refine gf_X4_11 C B k_o dX4_find_24 ?_
          refine lv_iload_n C.1 C.2.1 dX4_find_27 rfl (lv_at hl 0 rfl) ?_
          obtain ⟨g4, h⟩ := h
          refine jr_rald C B 10 (jk1 (ko_X4_0 k_o) rfl) (jk2 (ko_X4_0 k_o) rfl) r_x1 g4 dX4_find_28 (fun kk5 => ?_)
          exact jr_rret C B hr hlocks kk5 ⟨rfl, h⟩ dX4_find_29
        · refine jr_iinc (k := 0) (lv' := fun x6 => [(2, .int (jI x6)), (0, .ref (jD G o)), (1, .int (jI a1))]) C h hl rfl (by decide) (fun _ => rfl) dX4_find_30 (fun x6 h r_x6 ls hl => ?_)
          refine lv_goto (tgt := 2) C.1 C.2.1 dX4_find_33 (by decide) ?_
          exact ih2 _ _ _ _ h r_x6 B (lv_sub hl [0, 1, 2] rfl)
      · exact hkx2 _ _ _ h  B (lv_sub hl [] rfl)
  exact hL2 N _ _ _ _ h (jkc rfl) B (lv_sub hl [0, 1, 2] rfl)
theorem cl_X4_find {p : Program} {l : Launch} {e : Env} {R : Room} {s : State} {m : MethodId} {args : Array Value} {below : List Frame} {meth : Method} {c : Code} {H : Heap} {locs : List Loc} {cells slots : Nat} {Q : State → Prop} {cc : ByteArray} {nL : Nat} {own : String} {G : jG} {H0 : Heap} {pc idx : Nat} {ls : Array Slot} {rest : List Value} {N : Nat} {M : jM} {o a1 : Int} {k : Int → Prop} (C : Cx G p s args m c cc nL own) (hl : ls.size = nL) (B : Hp G M H0 H locs) (q1 : Cond.methodLink own idx yX4_find ∈ tb) (hR : (rmm 0 0).frames + 1 ≤ R.frames ∧ 8 + (3 + 11) + (rmm 0 0).locals ≤ R.locals) (hcs : cells ≤ R.cells ∧ slots ≤ R.slots) (hW : (rest.map fun v => v.category).sum ≤ 8) (k_o : jK o = 5) (r_a1 : jR a1) (h : w_X4_find N M o a1 k) (hdg : decode cc pc = .ok (.invokevirtual idx, 3)) (kk : ∀ (r : Int), (r < 0 ∨ jK r = 2) → ∀ (H1 : Heap) (locs1 : List Loc), k r → Hp G M H0 H1 locs1 → W p l e R s m args below meth c H1 locs1 cells slots Q (F0 m (pc + 3) ls (jN G r :: rest))) : W p l e R s m args below meth c H locs cells slots Q (F0 m pc ls (.int (jI a1) :: .ref (jD G o) :: rest)) :=
  jr_callQ B (jr_runV (o := o) (As := [.int (jI a1)]) (n := 1) C hl B (m_X4_find B.2.2 k_o r_a1 h) (jE5 k_o) (by omega) rfl q1 q_272 q_273 q_274 q_2 ⟨by decide, by decide, by decide +kernel⟩ rfl ⟨rfl, rfl⟩ hR hcs rfl hW hdg) (fun r M' H1 locs1 hr hk B1 => by obtain ⟨rfl, hk⟩ := hk; exact kk r hr H1 locs1 hk B1)
def lp_X4_addRecord_30 (o : Int) (a1 : Int) (kx30 : Int → jM → Prop) : Nat → Int → jM → Prop
  | 0, _, _ => False
  | n + 1, x6, M7 => (if x6 ≤ 0 then (kx30 x6 M7) else (jB (jW (x6 - 1)) 10 ∧ (if (M7 (M7 (o + 1) (jW (x6 - 1))) 0) ≤ a1 then (kx30 x6 M7) else (jB (jW (x6 - 1)) 10 ∧ (jB x6 10 ∧ jL (jU M7 (o + 1) x6 (M7 (o + 1) (jW (x6 - 1)))) (fun M16 => (jL (jW (x6 + (-1))) (fun x17 => (lp_X4_addRecord_30 o a1 kx30 n x17 M16)))))))))
def w_X4_addRecord (N : Nat) (M : jM) (o : Int) (a1 : Int) (k : jM → Prop) : Prop := (if (M o 1) < 10 then (jB (M o 1) 10 ∧ (jL (M (o + 1) (M o 1)) (fun x3 => (w_X1_begin N M x3 a1 (fun M4 => (jL (M4 o 1) (fun x5 => (lp_X4_addRecord_30 o a1 (fun (x8 : Int) (M9 : jM) => (jB x8 10 ∧ jL (jU M9 (o + 1) x8 x3) (fun M10 => (jL (jU M10 o 1 (jW ((M10 o 1) + 1))) (fun M11 => (k M11)))))) N x5 M4)))))))) else (k M))
set_option maxHeartbeats 4000000 in
set_option maxRecDepth 100000 in
theorem m_X4_addRecord {l : Launch} {G : jG} {N : Nat} {M : jM} {o a1 : Int} {k : jM → Prop} (o_M : jOK M) (k_o : jK o = 5) (r_a1 : jR a1) (h : w_X4_addRecord N M o a1 k) : Met l yX4_addRecord (wsG yX4_addRecord cX4_addRecord 4 none) (rmm 2 42) (jPc G M [.ref (jD G o), .int (jI a1)]) (qV G k) 0 0 (gA G) := by
  refine jm_start RX4 rfl (by decide) (Nat.le_of_ble_eq_true rfl) o_M ?_
  intro p e s m args below meth c ls C hr hlocks hl B
  have hl : lv_has ls 4 [(0, .ref (jD G o)), (1, .int (jI a1))] := hl
  unfold w_X4_addRecord at h
  refine lv_aload_n C.1 C.2.1 dX4_addRecord_0 rfl (lv_at hl 0 rfl) ?_
  refine gf_X4_18 C B k_o dX4_addRecord_1 ?_
  refine jr_bipush C dX4_addRecord_4 (by decide) ?_
  refine jr_icmp_lt (tgt := 10) C (o_M o 1).1 (jkc rfl) h dX4_addRecord_6 (by decide) (fun hc6 h => ?_) (fun hc6 h => ?_)
  · refine lv_aload_n C.1 C.2.1 dX4_addRecord_10 rfl (lv_at hl 0 rfl) ?_
    refine gf_X4_11 C B k_o dX4_addRecord_11 ?_
    refine lv_aload_n C.1 C.2.1 dX4_addRecord_14 rfl (lv_at hl 0 rfl) ?_
    refine gf_X4_18 C B k_o dX4_addRecord_15 ?_
    obtain ⟨g1, h⟩ := h
    refine jr_rald C B 10 (jk1 (ko_X4_0 k_o) rfl) (jk2 (ko_X4_0 k_o) rfl) (o_M o 1).1 g1 dX4_addRecord_18 (fun kk2 => ?_)
    refine jr_nmr h kk2 (fun x3 h k_x3 => ?_)
    refine lv_astore_n (lv' := [(2, .ref (jD G x3)), (0, .ref (jD G o)), (1, .int (jI a1))]) C.1 C.2.1 dX4_addRecord_19 rfl hl (by decide) rfl (fun ls hl => ?_)
    refine lv_aload_n C.1 C.2.1 dX4_addRecord_20 rfl (lv_at hl 0 rfl) ?_
    refine lv_iload_n C.1 C.2.1 dX4_addRecord_21 rfl (lv_at hl 2 rfl) ?_
    refine cl_X1_begin C hl.1 B q_461 ⟨Nat.le_of_ble_eq_true rfl, Nat.le_of_ble_eq_true rfl⟩ ⟨Nat.zero_le _, Nat.zero_le _⟩ (Nat.le_of_ble_eq_true rfl) k_x3 r_a1 h dX4_addRecord_22 (fun M4 _ _ h B => ?_)
    have o_M4 := B.2.2
    refine lv_aload_n C.1 C.2.1 dX4_addRecord_25 rfl (lv_at hl 1 rfl) ?_
    refine gf_X4_18 C B k_o dX4_addRecord_26 ?_
    refine jr_nm h (o_M4 o 1).1 (fun x5 h r_x5 => ?_)
    refine lv_istore_n (lv' := [(3, .int (jI x5)), (2, .ref (jD G x3)), (0, .ref (jD G o)), (1, .int (jI a1))]) C.1 C.2.1 dX4_addRecord_29 rfl hl (by decide) rfl (fun ls hl => ?_)
    obtain ⟨kx30, hkx30, h⟩ : ∃ kx30 : Int → jM → Prop, (∀ (x8 : Int) (M9 : jM) (H : Heap) (locs : List Loc) (ls : Array Slot), kx30 x8 M9 → jR x8 → Hp G M9 s.heap H locs → lv_has ls 4 [(3, .int (jI x8)), (2, .ref (jD G x3)), (0, .ref (jD G o))] → W p l e (rmm 2 42) s m args below meth c H locs 0 0 (MQ below (qV G k) args s 0 0 (gA G)) (F0 m 69 ls [])) ∧ lp_X4_addRecord_30 o a1 kx30 N x5 M4 := by
      refine ⟨_, ?_, h⟩
      intro x8 M9 H locs ls h r_x8 B hl
      have o_M9 := B.2.2
      refine lv_aload_n C.1 C.2.1 dX4_addRecord_69 rfl (lv_at hl 2 rfl) ?_
      refine gf_X4_11 C B k_o dX4_addRecord_70 ?_
      refine lv_iload_n C.1 C.2.1 dX4_addRecord_73 rfl (lv_at hl 0 rfl) ?_
      refine lv_aload_n C.1 C.2.1 dX4_addRecord_74 rfl (lv_at hl 1 rfl) ?_
      refine jr_rast C B 10 (jk1 (ko_X4_0 k_o) rfl) (jk2 (ko_X4_0 k_o) rfl) r_x8 k_x3 h dX4_addRecord_75 (fun M10 _ _ h B => ?_)
      have o_M10 := B.2.2
      refine lv_aload_n C.1 C.2.1 dX4_addRecord_76 rfl (lv_at hl 2 rfl) ?_
      refine lv_dup C.1 C.2.1 dX4_addRecord_77 rfl ?_
      refine gf_X4_18 C B k_o dX4_addRecord_78 ?_
      refine jr_iconst C dX4_addRecord_81 ?_
      refine jr_iadd C dX4_addRecord_82 ?_
      refine pf_X4_18 C B k_o (jW_R _) h dX4_addRecord_83 (fun M11 _ _ h B => ?_)
      have o_M11 := B.2.2
      exact jr_vret C B hr hlocks h dX4_addRecord_86
    have hL30 : ∀ (n : Nat) (x6 : Int) (M7 : jM) (H : Heap) (locs : List Loc) (ls : Array Slot), lp_X4_addRecord_30 o a1 kx30 n x6 M7 → jR x6 → Hp G M7 s.heap H locs → lv_has ls 4 [(3, .int (jI x6)), (2, .ref (jD G x3)), (0, .ref (jD G o)), (1, .int (jI a1))] → W p l e (rmm 2 42) s m args below meth c H locs 0 0 (MQ below (qV G k) args s 0 0 (gA G)) (F0 m 30 ls []) := by
      intro n
      induction n with
      | zero => intro x6 M7 H locs ls h; exact (show False from h).elim
      | succ n ih30 =>
        intro x6 M7 H locs ls h r_x6 B hl
        have o_M7 := B.2.2
        rw [lp_X4_addRecord_30] at h
        refine lv_iload_n C.1 C.2.1 dX4_addRecord_30 rfl (lv_at hl 0 rfl) ?_
        refine jr_if_le (tgt := 69) C r_x6 h dX4_addRecord_31 (by decide) (fun hc31 h => ?_) (fun hc31 h => ?_)
        · exact hkx30 _ _ _ _ _ h r_x6 B (lv_sub hl [0, 1, 2] rfl)
        · refine lv_aload_n C.1 C.2.1 dX4_addRecord_34 rfl (lv_at hl 2 rfl) ?_
          refine gf_X4_11 C B k_o dX4_addRecord_35 ?_
          refine lv_iload_n C.1 C.2.1 dX4_addRecord_38 rfl (lv_at hl 0 rfl) ?_
          refine jr_iconst C dX4_addRecord_39 ?_
          refine jr_isub C dX4_addRecord_40 ?_
          obtain ⟨g12, h⟩ := h
          refine jr_rald C B 10 (jk1 (ko_X4_0 k_o) rfl) (jk2 (ko_X4_0 k_o) rfl) (jW_R _) g12 dX4_addRecord_41 (fun kk13 => ?_)
          refine gf_X4_53 C B kk13 dX4_addRecord_42 ?_
          refine lv_iload_n C.1 C.2.1 dX4_addRecord_45 rfl (lv_at hl 3 rfl) ?_
          refine jr_icmp_le (tgt := 69) C (o_M7 (M7 (o + 1) (jW (x6 - 1))) 0).1 r_a1 h dX4_addRecord_46 (by decide) (fun hc46 h => ?_) (fun hc46 h => ?_)
          · exact hkx30 _ _ _ _ _ h r_x6 B (lv_sub hl [0, 1, 2] rfl)
          · refine lv_aload_n C.1 C.2.1 dX4_addRecord_49 rfl (lv_at hl 2 rfl) ?_
            refine gf_X4_11 C B k_o dX4_addRecord_50 ?_
            refine lv_iload_n C.1 C.2.1 dX4_addRecord_53 rfl (lv_at hl 0 rfl) ?_
            refine lv_aload_n C.1 C.2.1 dX4_addRecord_54 rfl (lv_at hl 2 rfl) ?_
            refine gf_X4_11 C B k_o dX4_addRecord_55 ?_
            refine lv_iload_n C.1 C.2.1 dX4_addRecord_58 rfl (lv_at hl 0 rfl) ?_
            refine jr_iconst C dX4_addRecord_59 ?_
            refine jr_isub C dX4_addRecord_60 ?_
            obtain ⟨g14, h⟩ := h
            refine jr_rald C B 10 (jk1 (ko_X4_0 k_o) rfl) (jk2 (ko_X4_0 k_o) rfl) (jW_R _) g14 dX4_addRecord_61 (fun kk15 => ?_)
            refine jr_rast C B 10 (jk1 (ko_X4_0 k_o) rfl) (jk2 (ko_X4_0 k_o) rfl) r_x6 kk15 h dX4_addRecord_62 (fun M16 _ _ h B => ?_)
            have o_M16 := B.2.2
            refine jr_iinc (k := 0) (lv' := fun x17 => [(3, .int (jI x17)), (2, .ref (jD G x3)), (0, .ref (jD G o)), (1, .int (jI a1))]) C h hl rfl (by decide) (fun _ => rfl) dX4_addRecord_63 (fun x17 h r_x17 ls hl => ?_)
            refine lv_goto (tgt := 30) C.1 C.2.1 dX4_addRecord_66 (by decide) ?_
            exact ih30 _ _ _ _ _ h r_x17 B (lv_sub hl [0, 1, 2, 3] rfl)
    exact hL30 N _ _ _ _ _ h r_x5 B (lv_sub hl [0, 1, 2, 3] rfl)
  · exact jr_vret C B hr hlocks h dX4_addRecord_9
theorem cl_X4_addRecord {p : Program} {l : Launch} {e : Env} {R : Room} {s : State} {m : MethodId} {args : Array Value} {below : List Frame} {meth : Method} {c : Code} {H : Heap} {locs : List Loc} {cells slots : Nat} {Q : State → Prop} {cc : ByteArray} {nL : Nat} {own : String} {G : jG} {H0 : Heap} {pc idx : Nat} {ls : Array Slot} {rest : List Value} {N : Nat} {M : jM} {o a1 : Int} {k : jM → Prop} (C : Cx G p s args m c cc nL own) (hl : ls.size = nL) (B : Hp G M H0 H locs) (q1 : Cond.methodLink own idx yX4_addRecord ∈ tb) (hR : (rmm 2 42).frames + 1 ≤ R.frames ∧ 8 + (4 + 11) + (rmm 2 42).locals ≤ R.locals) (hcs : cells ≤ R.cells ∧ slots ≤ R.slots) (hW : (rest.map fun v => v.category).sum ≤ 8) (k_o : jK o = 5) (r_a1 : jR a1) (h : w_X4_addRecord N M o a1 k) (hdg : decode cc pc = .ok (.invokevirtual idx, 3)) (kk : ∀ (M' : jM) (H1 : Heap) (locs1 : List Loc), k M' → Hp G M' H0 H1 locs1 → W p l e R s m args below meth c H1 locs1 cells slots Q (F0 m (pc + 3) ls rest)) : W p l e R s m args below meth c H locs cells slots Q (F0 m pc ls (.int (jI a1) :: .ref (jD G o) :: rest)) :=
  jr_callV B (jr_runV (o := o) (As := [.int (jI a1)]) (n := 1) C hl B (m_X4_addRecord B.2.2 k_o r_a1 h) (jE5 k_o) (by omega) rfl q1 q_458 q_459 q_460 q_2 ⟨by decide, by decide, by decide +kernel⟩ rfl ⟨rfl, rfl⟩ hR hcs rfl hW hdg) (fun M' H1 locs1 hk B1 => kk M' H1 locs1 hk B1)
def lp_X4_dropRecord_35 (o : Int) (kx35 : jM → Prop) : Nat → Int → jM → Prop
  | 0, _, _ => False
  | n + 1, x8, M9 => (if x8 < (M9 o 1) then (jB x8 10 ∧ (jB (jW (x8 - 1)) 10 ∧ jL (jU M9 (o + 1) (jW (x8 - 1)) (M9 (o + 1) x8)) (fun M15 => (jL (jW (x8 + 1)) (fun x16 => (lp_X4_dropRecord_35 o kx35 n x16 M15)))))) else (kx35 M9))
def lp_X4_dropRecord_2 (N : Nat) (o : Int) (a1 : Int) (M : jM) (k : jM → Prop) (kx2 : Prop) : Nat → Int → Prop
  | 0, _ => False
  | n + 1, x1 => (if x1 < (M o 1) then (jB x1 10 ∧ (if (M (M (o + 1) x1) 0) = a1 then (jB x1 10 ∧ (jL (M (o + 1) x1) (fun x6 => (jL (jW (x1 + 1)) (fun x7 => (lp_X4_dropRecord_35 o (fun (M10 : jM) => (jL (jU M10 o 1 (jW ((M10 o 1) - 1))) (fun M11 => (jB (M11 o 1) 10 ∧ jL (jU M11 (o + 1) (M11 o 1) x6) (fun M12 => (k M12)))))) N x7 M)))))) else (jL (jW (x1 + 1)) (fun x17 => (lp_X4_dropRecord_2 N o a1 M k kx2 n x17))))) else (kx2))
def w_X4_dropRecord (N : Nat) (M : jM) (o : Int) (a1 : Int) (k : jM → Prop) : Prop := (lp_X4_dropRecord_2 N o a1 M k ((k M)) N 0)
set_option maxHeartbeats 4000000 in
set_option maxRecDepth 100000 in
theorem m_X4_dropRecord {l : Launch} {G : jG} {N : Nat} {M : jM} {o a1 : Int} {k : jM → Prop} (o_M : jOK M) (k_o : jK o = 5) (r_a1 : jR a1) (h : w_X4_dropRecord N M o a1 k) : Met l yX4_dropRecord (wsG yX4_dropRecord cX4_dropRecord 5 none) (rmm 0 0) (jPc G M [.ref (jD G o), .int (jI a1)]) (qV G k) 0 0 (gA G) := by
  refine jm_start RX4 rfl (by decide) (Nat.le_of_ble_eq_true rfl) o_M ?_
  intro p e s m args below meth c ls C hr hlocks hl B
  have hl : lv_has ls 5 [(0, .ref (jD G o)), (1, .int (jI a1))] := hl
  unfold w_X4_dropRecord at h
  refine jr_iconst C dX4_dropRecord_0 ?_
  refine lv_istore_n (lv' := [(2, .int (jI 0)), (0, .ref (jD G o)), (1, .int (jI a1))]) C.1 C.2.1 dX4_dropRecord_1 rfl hl (by decide) rfl (fun ls hl => ?_)
  obtain ⟨kx2, hkx2, h⟩ : ∃ kx2 : Prop, (∀ (H : Heap) (locs : List Loc) (ls : Array Slot), kx2 → Hp G M s.heap H locs → lv_has ls 5 [] → W p l e (rmm 0 0) s m args below meth c H locs 0 0 (MQ below (qV G k) args s 0 0 (gA G)) (F0 m 93 ls [])) ∧ lp_X4_dropRecord_2 N o a1 M k kx2 N 0 := by
    refine ⟨_, ?_, h⟩
    intro H locs ls h  B hl
    exact jr_vret C B hr hlocks h dX4_dropRecord_93
  have hL2 : ∀ (n : Nat) (x1 : Int) (H : Heap) (locs : List Loc) (ls : Array Slot), lp_X4_dropRecord_2 N o a1 M k kx2 n x1 → jR x1 → Hp G M s.heap H locs → lv_has ls 5 [(2, .int (jI x1)), (0, .ref (jD G o)), (1, .int (jI a1))] → W p l e (rmm 0 0) s m args below meth c H locs 0 0 (MQ below (qV G k) args s 0 0 (gA G)) (F0 m 2 ls []) := by
    intro n
    induction n with
    | zero => intro x1 H locs ls h; exact (show False from h).elim
    | succ n ih2 =>
      intro x1 H locs ls h r_x1 B hl
      rw [lp_X4_dropRecord_2] at h
      refine lv_iload_n C.1 C.2.1 dX4_dropRecord_2 rfl (lv_at hl 0 rfl) ?_
      refine lv_aload_n C.1 C.2.1 dX4_dropRecord_3 rfl (lv_at hl 1 rfl) ?_
      refine gf_X4_18 C B k_o dX4_dropRecord_4 ?_
      refine jr_icmp_ge (tgt := 93) C r_x1 (o_M o 1).1 h dX4_dropRecord_7 (by decide) (fun hc7 h => ?_) (fun hc7 h => ?_)
      · refine lv_aload_n C.1 C.2.1 dX4_dropRecord_10 rfl (lv_at hl 1 rfl) ?_
        refine gf_X4_11 C B k_o dX4_dropRecord_11 ?_
        refine lv_iload_n C.1 C.2.1 dX4_dropRecord_14 rfl (lv_at hl 0 rfl) ?_
        obtain ⟨g2, h⟩ := h
        refine jr_rald C B 10 (jk1 (ko_X4_0 k_o) rfl) (jk2 (ko_X4_0 k_o) rfl) r_x1 g2 dX4_dropRecord_15 (fun kk3 => ?_)
        refine gf_X4_53 C B kk3 dX4_dropRecord_16 ?_
        refine lv_iload_n C.1 C.2.1 dX4_dropRecord_19 rfl (lv_at hl 2 rfl) ?_
        refine jr_icmp_ne (tgt := 87) C (o_M (M (o + 1) x1) 0).1 r_a1 h dX4_dropRecord_20 (by decide) (fun hc20 h => ?_) (fun hc20 h => ?_)
        · refine lv_aload_n C.1 C.2.1 dX4_dropRecord_23 rfl (lv_at hl 1 rfl) ?_
          refine gf_X4_11 C B k_o dX4_dropRecord_24 ?_
          refine lv_iload_n C.1 C.2.1 dX4_dropRecord_27 rfl (lv_at hl 0 rfl) ?_
          obtain ⟨g4, h⟩ := h
          refine jr_rald C B 10 (jk1 (ko_X4_0 k_o) rfl) (jk2 (ko_X4_0 k_o) rfl) r_x1 g4 dX4_dropRecord_28 (fun kk5 => ?_)
          refine jr_nmr h kk5 (fun x6 h k_x6 => ?_)
          refine lv_astore_n (lv' := [(3, .ref (jD G x6)), (2, .int (jI x1)), (0, .ref (jD G o)), (1, .int (jI a1))]) C.1 C.2.1 dX4_dropRecord_29 rfl hl (by decide) rfl (fun ls hl => ?_)
          refine lv_iload_n C.1 C.2.1 dX4_dropRecord_30 rfl (lv_at hl 1 rfl) ?_
          refine jr_iconst C dX4_dropRecord_31 ?_
          refine jr_iadd C dX4_dropRecord_32 ?_
          refine jr_nm h (jW_R _) (fun x7 h r_x7 => ?_)
          refine lv_istore (lv' := [(4, .int (jI x7)), (3, .ref (jD G x6)), (2, .int (jI x1)), (0, .ref (jD G o)), (1, .int (jI a1))]) C.1 C.2.1 dX4_dropRecord_33 hl (by decide) rfl (fun ls hl => ?_)
          obtain ⟨kx35, hkx35, h⟩ : ∃ kx35 : jM → Prop, (∀ (M10 : jM) (H : Heap) (locs : List Loc) (ls : Array Slot), kx35 M10 → Hp G M10 s.heap H locs → lv_has ls 5 [(3, .ref (jD G x6)), (0, .ref (jD G o))] → W p l e (rmm 0 0) s m args below meth c H locs 0 0 (MQ below (qV G k) args s 0 0 (gA G)) (F0 m 66 ls [])) ∧ lp_X4_dropRecord_35 o kx35 N x7 M := by
            refine ⟨_, ?_, h⟩
            intro M10 H locs ls h  B hl
            have o_M10 := B.2.2
            refine lv_aload_n C.1 C.2.1 dX4_dropRecord_66 rfl (lv_at hl 1 rfl) ?_
            refine lv_dup C.1 C.2.1 dX4_dropRecord_67 rfl ?_
            refine gf_X4_18 C B k_o dX4_dropRecord_68 ?_
            refine jr_iconst C dX4_dropRecord_71 ?_
            refine jr_isub C dX4_dropRecord_72 ?_
            refine pf_X4_18 C B k_o (jW_R _) h dX4_dropRecord_73 (fun M11 _ _ h B => ?_)
            have o_M11 := B.2.2
            refine lv_aload_n C.1 C.2.1 dX4_dropRecord_76 rfl (lv_at hl 1 rfl) ?_
            refine gf_X4_11 C B k_o dX4_dropRecord_77 ?_
            refine lv_aload_n C.1 C.2.1 dX4_dropRecord_80 rfl (lv_at hl 1 rfl) ?_
            refine gf_X4_18 C B k_o dX4_dropRecord_81 ?_
            refine lv_aload_n C.1 C.2.1 dX4_dropRecord_84 rfl (lv_at hl 0 rfl) ?_
            refine jr_rast C B 10 (jk1 (ko_X4_0 k_o) rfl) (jk2 (ko_X4_0 k_o) rfl) (o_M11 o 1).1 k_x6 h dX4_dropRecord_85 (fun M12 _ _ h B => ?_)
            have o_M12 := B.2.2
            exact jr_vret C B hr hlocks h dX4_dropRecord_86
          have hL35 : ∀ (n : Nat) (x8 : Int) (M9 : jM) (H : Heap) (locs : List Loc) (ls : Array Slot), lp_X4_dropRecord_35 o kx35 n x8 M9 → jR x8 → Hp G M9 s.heap H locs → lv_has ls 5 [(4, .int (jI x8)), (3, .ref (jD G x6)), (0, .ref (jD G o))] → W p l e (rmm 0 0) s m args below meth c H locs 0 0 (MQ below (qV G k) args s 0 0 (gA G)) (F0 m 35 ls []) := by
            intro n
            induction n with
            | zero => intro x8 M9 H locs ls h; exact (show False from h).elim
            | succ n ih35 =>
              intro x8 M9 H locs ls h r_x8 B hl
              have o_M9 := B.2.2
              rw [lp_X4_dropRecord_35] at h
              refine lv_iload C.1 C.2.1 dX4_dropRecord_35 (lv_at hl 0 rfl) ?_
              refine lv_aload_n C.1 C.2.1 dX4_dropRecord_37 rfl (lv_at hl 2 rfl) ?_
              refine gf_X4_18 C B k_o dX4_dropRecord_38 ?_
              refine jr_icmp_ge (tgt := 66) C r_x8 (o_M9 o 1).1 h dX4_dropRecord_41 (by decide) (fun hc41 h => ?_) (fun hc41 h => ?_)
              · refine lv_aload_n C.1 C.2.1 dX4_dropRecord_44 rfl (lv_at hl 2 rfl) ?_
                refine gf_X4_11 C B k_o dX4_dropRecord_45 ?_
                refine lv_iload C.1 C.2.1 dX4_dropRecord_48 (lv_at hl 0 rfl) ?_
                refine jr_iconst C dX4_dropRecord_50 ?_
                refine jr_isub C dX4_dropRecord_51 ?_
                refine lv_aload_n C.1 C.2.1 dX4_dropRecord_52 rfl (lv_at hl 2 rfl) ?_
                refine gf_X4_11 C B k_o dX4_dropRecord_53 ?_
                refine lv_iload C.1 C.2.1 dX4_dropRecord_56 (lv_at hl 0 rfl) ?_
                obtain ⟨g13, h⟩ := h
                refine jr_rald C B 10 (jk1 (ko_X4_0 k_o) rfl) (jk2 (ko_X4_0 k_o) rfl) r_x8 g13 dX4_dropRecord_58 (fun kk14 => ?_)
                refine jr_rast C B 10 (jk1 (ko_X4_0 k_o) rfl) (jk2 (ko_X4_0 k_o) rfl) (jW_R _) kk14 h dX4_dropRecord_59 (fun M15 _ _ h B => ?_)
                have o_M15 := B.2.2
                refine jr_iinc (k := 0) (lv' := fun x16 => [(4, .int (jI x16)), (3, .ref (jD G x6)), (0, .ref (jD G o))]) C h hl rfl (by decide) (fun _ => rfl) dX4_dropRecord_60 (fun x16 h r_x16 ls hl => ?_)
                refine lv_goto (tgt := 35) C.1 C.2.1 dX4_dropRecord_63 (by decide) ?_
                exact ih35 _ _ _ _ _ h r_x16 B (lv_sub hl [0, 1, 2] rfl)
              · exact hkx35 _ _ _ _ h  B (lv_sub hl [1, 2] rfl)
          exact hL35 N _ _ _ _ _ h r_x7 B (lv_sub hl [0, 1, 3] rfl)
        · refine jr_iinc (k := 0) (lv' := fun x17 => [(2, .int (jI x17)), (0, .ref (jD G o)), (1, .int (jI a1))]) C h hl rfl (by decide) (fun _ => rfl) dX4_dropRecord_87 (fun x17 h r_x17 ls hl => ?_)
          refine lv_goto (tgt := 2) C.1 C.2.1 dX4_dropRecord_90 (by decide) ?_
          exact ih2 _ _ _ _ h r_x17 B (lv_sub hl [0, 1, 2] rfl)
      · exact hkx2 _ _ _ h  B (lv_sub hl [] rfl)
  exact hL2 N _ _ _ _ h (jkc rfl) B (lv_sub hl [0, 1, 2] rfl)
theorem cl_X4_dropRecord {p : Program} {l : Launch} {e : Env} {R : Room} {s : State} {m : MethodId} {args : Array Value} {below : List Frame} {meth : Method} {c : Code} {H : Heap} {locs : List Loc} {cells slots : Nat} {Q : State → Prop} {cc : ByteArray} {nL : Nat} {own : String} {G : jG} {H0 : Heap} {pc idx : Nat} {ls : Array Slot} {rest : List Value} {N : Nat} {M : jM} {o a1 : Int} {k : jM → Prop} (C : Cx G p s args m c cc nL own) (hl : ls.size = nL) (B : Hp G M H0 H locs) (q1 : Cond.methodLink own idx yX4_dropRecord ∈ tb) (hR : (rmm 0 0).frames + 1 ≤ R.frames ∧ 8 + (5 + 11) + (rmm 0 0).locals ≤ R.locals) (hcs : cells ≤ R.cells ∧ slots ≤ R.slots) (hW : (rest.map fun v => v.category).sum ≤ 8) (k_o : jK o = 5) (r_a1 : jR a1) (h : w_X4_dropRecord N M o a1 k) (hdg : decode cc pc = .ok (.invokevirtual idx, 3)) (kk : ∀ (M' : jM) (H1 : Heap) (locs1 : List Loc), k M' → Hp G M' H0 H1 locs1 → W p l e R s m args below meth c H1 locs1 cells slots Q (F0 m (pc + 3) ls rest)) : W p l e R s m args below meth c H locs cells slots Q (F0 m pc ls (.int (jI a1) :: .ref (jD G o) :: rest)) :=
  jr_callV B (jr_runV (o := o) (As := [.int (jI a1)]) (n := 1) C hl B (m_X4_dropRecord B.2.2 k_o r_a1 h) (jE5 k_o) (by omega) rfl q1 q_664 q_665 q_666 q_2 ⟨by decide, by decide, by decide +kernel⟩ rfl ⟨rfl, rfl⟩ hR hcs rfl hW hdg) (fun M' H1 locs1 hk B1 => kk M' H1 locs1 hk B1)
def lp_X4_lockCount_4 (o : Int) (a1 : Int) (M : jM) (kx4 : Int → Prop) : Nat → Int → Int → Prop
  | 0, _, _ => False
  | n + 1, x1, x2 => (if x2 < (M o 1) then (jB x2 10 ∧ (if (M (M (o + 1) x2) 1) = a1 then (jL (jW (x1 + 1)) (fun x6 => (jL (jW (x2 + 1)) (fun x7 => (lp_X4_lockCount_4 o a1 M kx4 n x6 x7))))) else (jL (jW (x2 + 1)) (fun x8 => (lp_X4_lockCount_4 o a1 M kx4 n x1 x8))))) else (kx4 x1))
def w_X4_lockCount (N : Nat) (M : jM) (o : Int) (a1 : Int) (k : Int → Prop) : Prop := (lp_X4_lockCount_4 o a1 M (fun (x3 : Int) => (k x3)) N 0 0)
set_option maxHeartbeats 4000000 in
set_option maxRecDepth 100000 in
theorem m_X4_lockCount {l : Launch} {G : jG} {N : Nat} {M : jM} {o a1 : Int} {k : Int → Prop} (o_M : jOK M) (k_o : jK o = 5) (r_a1 : jR a1) (h : w_X4_lockCount N M o a1 k) : Met l yX4_lockCount (wsG yX4_lockCount cX4_lockCount 4 (some .int)) (rmm 0 0) (jPc G M [.ref (jD G o), .int (jI a1)]) (qI G (fun r M' => M' = M ∧ k r)) 0 0 (gA G) := by
  refine jm_start RX4 rfl (by decide) (Nat.le_of_ble_eq_true rfl) o_M ?_
  intro p e s m args below meth c ls C hr hlocks hl B
  have hl : lv_has ls 4 [(0, .ref (jD G o)), (1, .int (jI a1))] := hl
  unfold w_X4_lockCount at h
  refine jr_iconst C dX4_lockCount_0 ?_
  refine lv_istore_n (lv' := [(2, .int (jI 0)), (0, .ref (jD G o)), (1, .int (jI a1))]) C.1 C.2.1 dX4_lockCount_1 rfl hl (by decide) rfl (fun ls hl => ?_)
  refine jr_iconst C dX4_lockCount_2 ?_
  refine lv_istore_n (lv' := [(3, .int (jI 0)), (2, .int (jI 0)), (0, .ref (jD G o)), (1, .int (jI a1))]) C.1 C.2.1 dX4_lockCount_3 rfl hl (by decide) rfl (fun ls hl => ?_)
  obtain ⟨kx4, hkx4, h⟩ : ∃ kx4 : Int → Prop, (∀ (x3 : Int) (H : Heap) (locs : List Loc) (ls : Array Slot), kx4 x3 → jR x3 → Hp G M s.heap H locs → lv_has ls 4 [(2, .int (jI x3))] → W p l e (rmm 0 0) s m args below meth c H locs 0 0 (MQ below (qI G (fun r M' => M' = M ∧ k r)) args s 0 0 (gA G)) (F0 m 34 ls [])) ∧ lp_X4_lockCount_4 o a1 M kx4 N 0 0 := by
    refine ⟨_, ?_, h⟩
    intro x3 H locs ls h r_x3 B hl
    refine lv_iload_n C.1 C.2.1 dX4_lockCount_34 rfl (lv_at hl 0 rfl) ?_
    exact jr_iret C B hr hlocks r_x3 ⟨rfl, h⟩ dX4_lockCount_35
  have hL4 : ∀ (n : Nat) (x1 : Int) (x2 : Int) (H : Heap) (locs : List Loc) (ls : Array Slot), lp_X4_lockCount_4 o a1 M kx4 n x1 x2 → jR x1 → jR x2 → Hp G M s.heap H locs → lv_has ls 4 [(2, .int (jI x1)), (3, .int (jI x2)), (0, .ref (jD G o)), (1, .int (jI a1))] → W p l e (rmm 0 0) s m args below meth c H locs 0 0 (MQ below (qI G (fun r M' => M' = M ∧ k r)) args s 0 0 (gA G)) (F0 m 4 ls []) := by
    intro n
    induction n with
    | zero => intro x1 x2 H locs ls h; exact (show False from h).elim
    | succ n ih4 =>
      intro x1 x2 H locs ls h r_x1 r_x2 B hl
      rw [lp_X4_lockCount_4] at h
      refine lv_iload_n C.1 C.2.1 dX4_lockCount_4 rfl (lv_at hl 1 rfl) ?_
      refine lv_aload_n C.1 C.2.1 dX4_lockCount_5 rfl (lv_at hl 2 rfl) ?_
      refine gf_X4_18 C B k_o dX4_lockCount_6 ?_
      refine jr_icmp_ge (tgt := 34) C r_x2 (o_M o 1).1 h dX4_lockCount_9 (by decide) (fun hc9 h => ?_) (fun hc9 h => ?_)
      · refine lv_aload_n C.1 C.2.1 dX4_lockCount_12 rfl (lv_at hl 2 rfl) ?_
        refine gf_X4_11 C B k_o dX4_lockCount_13 ?_
        refine lv_iload_n C.1 C.2.1 dX4_lockCount_16 rfl (lv_at hl 1 rfl) ?_
        obtain ⟨g4, h⟩ := h
        refine jr_rald C B 10 (jk1 (ko_X4_0 k_o) rfl) (jk2 (ko_X4_0 k_o) rfl) r_x2 g4 dX4_lockCount_17 (fun kk5 => ?_)
        refine gf_X4_60 C B kk5 dX4_lockCount_18 ?_
        refine lv_iload_n C.1 C.2.1 dX4_lockCount_21 rfl (lv_at hl 3 rfl) ?_
        refine jr_icmp_ne (tgt := 28) C (o_M (M (o + 1) x2) 1).1 r_a1 h dX4_lockCount_22 (by decide) (fun hc22 h => ?_) (fun hc22 h => ?_)
        · refine jr_iinc (k := 0) (lv' := fun x6 => [(2, .int (jI x6)), (3, .int (jI x2)), (0, .ref (jD G o)), (1, .int (jI a1))]) C h hl rfl (by decide) (fun _ => rfl) dX4_lockCount_25 (fun x6 h r_x6 ls hl => ?_)
          refine jr_iinc (k := 1) (lv' := fun x7 => [(3, .int (jI x7)), (2, .int (jI x6)), (0, .ref (jD G o)), (1, .int (jI a1))]) C h hl rfl (by decide) (fun _ => rfl) dX4_lockCount_28 (fun x7 h r_x7 ls hl => ?_)
          refine lv_goto (tgt := 4) C.1 C.2.1 dX4_lockCount_31 (by decide) ?_
          exact ih4 _ _ _ _ _ h r_x6 r_x7 B (lv_sub hl [1, 0, 2, 3] rfl)
        · refine jr_iinc (k := 1) (lv' := fun x8 => [(3, .int (jI x8)), (2, .int (jI x1)), (0, .ref (jD G o)), (1, .int (jI a1))]) C h hl rfl (by decide) (fun _ => rfl) dX4_lockCount_28 (fun x8 h r_x8 ls hl => ?_)
          refine lv_goto (tgt := 4) C.1 C.2.1 dX4_lockCount_31 (by decide) ?_
          exact ih4 _ _ _ _ _ h r_x1 r_x8 B (lv_sub hl [1, 0, 2, 3] rfl)
      · exact hkx4 _ _ _ _ h r_x1 B (lv_sub hl [0] rfl)
  exact hL4 N _ _ _ _ _ h (jkc rfl) (jkc rfl) B (lv_sub hl [1, 0, 2, 3] rfl)
theorem cl_X4_lockCount {p : Program} {l : Launch} {e : Env} {R : Room} {s : State} {m : MethodId} {args : Array Value} {below : List Frame} {meth : Method} {c : Code} {H : Heap} {locs : List Loc} {cells slots : Nat} {Q : State → Prop} {cc : ByteArray} {nL : Nat} {own : String} {G : jG} {H0 : Heap} {pc idx : Nat} {ls : Array Slot} {rest : List Value} {N : Nat} {M : jM} {o a1 : Int} {k : Int → Prop} (C : Cx G p s args m c cc nL own) (hl : ls.size = nL) (B : Hp G M H0 H locs) (q1 : Cond.methodLink own idx yX4_lockCount ∈ tb) (hR : (rmm 0 0).frames + 1 ≤ R.frames ∧ 8 + (4 + 11) + (rmm 0 0).locals ≤ R.locals) (hcs : cells ≤ R.cells ∧ slots ≤ R.slots) (hW : (rest.map fun v => v.category).sum ≤ 8) (k_o : jK o = 5) (r_a1 : jR a1) (h : w_X4_lockCount N M o a1 k) (hdg : decode cc pc = .ok (.invokevirtual idx, 3)) (kk : ∀ (r : Int), jR r → ∀ (H1 : Heap) (locs1 : List Loc), k r → Hp G M H0 H1 locs1 → W p l e R s m args below meth c H1 locs1 cells slots Q (F0 m (pc + 3) ls (.int (jI r) :: rest))) : W p l e R s m args below meth c H locs cells slots Q (F0 m pc ls (.int (jI a1) :: .ref (jD G o) :: rest)) :=
  jr_callI B (jr_runV (o := o) (As := [.int (jI a1)]) (n := 1) C hl B (m_X4_lockCount B.2.2 k_o r_a1 h) (jE5 k_o) (by omega) rfl q1 q_652 q_653 q_654 q_2 ⟨by decide, by decide, by decide +kernel⟩ rfl ⟨rfl, rfl⟩ hR hcs rfl hW hdg) (fun r M' H1 locs1 hr hk B1 => by obtain ⟨rfl, hk⟩ := hk; exact kk r hr H1 locs1 hk B1)
def lp_X4_associatedCount_4 (o : Int) (M : jM) (kx4 : Int → Prop) : Nat → Int → Int → Prop
  | 0, _, _ => False
  | n + 1, x1, x2 => (if x2 < 4 then (jB x2 4 ∧ (if (M (o + 42) x2) = 0 then (jL (jW (x2 + 1)) (fun x5 => (lp_X4_associatedCount_4 o M kx4 n x1 x5))) else (jL (jW (x1 + 1)) (fun x6 => (jL (jW (x2 + 1)) (fun x7 => (lp_X4_associatedCount_4 o M kx4 n x6 x7))))))) else (kx4 x1))
def w_X4_associatedCount (N : Nat) (M : jM) (o : Int) (k : Int → Prop) : Prop := (lp_X4_associatedCount_4 o M (fun (x3 : Int) => (k x3)) N 0 0)
set_option maxHeartbeats 4000000 in
set_option maxRecDepth 100000 in
theorem m_X4_associatedCount {l : Launch} {G : jG} {N : Nat} {M : jM} {o : Int} {k : Int → Prop} (o_M : jOK M) (k_o : jK o = 5) (h : w_X4_associatedCount N M o k) : Met l yX4_associatedCount (wsG yX4_associatedCount cX4_associatedCount 3 (some .int)) (rmm 0 0) (jPc G M [.ref (jD G o)]) (qI G (fun r M' => M' = M ∧ k r)) 0 0 (gA G) := by
  refine jm_start RX4 rfl (by decide) (Nat.le_of_ble_eq_true rfl) o_M ?_
  intro p e s m args below meth c ls C hr hlocks hl B
  have hl : lv_has ls 3 [(0, .ref (jD G o))] := hl
  unfold w_X4_associatedCount at h
  refine jr_iconst C dX4_associatedCount_0 ?_
  refine lv_istore_n (lv' := [(1, .int (jI 0)), (0, .ref (jD G o))]) C.1 C.2.1 dX4_associatedCount_1 rfl hl (by decide) rfl (fun ls hl => ?_)
  refine jr_iconst C dX4_associatedCount_2 ?_
  refine lv_istore_n (lv' := [(2, .int (jI 0)), (1, .int (jI 0)), (0, .ref (jD G o))]) C.1 C.2.1 dX4_associatedCount_3 rfl hl (by decide) rfl (fun ls hl => ?_)
  obtain ⟨kx4, hkx4, h⟩ : ∃ kx4 : Int → Prop, (∀ (x3 : Int) (H : Heap) (locs : List Loc) (ls : Array Slot), kx4 x3 → jR x3 → Hp G M s.heap H locs → lv_has ls 3 [(1, .int (jI x3))] → W p l e (rmm 0 0) s m args below meth c H locs 0 0 (MQ below (qI G (fun r M' => M' = M ∧ k r)) args s 0 0 (gA G)) (F0 m 27 ls [])) ∧ lp_X4_associatedCount_4 o M kx4 N 0 0 := by
    refine ⟨_, ?_, h⟩
    intro x3 H locs ls h r_x3 B hl
    refine lv_iload_n C.1 C.2.1 dX4_associatedCount_27 rfl (lv_at hl 0 rfl) ?_
    exact jr_iret C B hr hlocks r_x3 ⟨rfl, h⟩ dX4_associatedCount_28
  have hL4 : ∀ (n : Nat) (x1 : Int) (x2 : Int) (H : Heap) (locs : List Loc) (ls : Array Slot), lp_X4_associatedCount_4 o M kx4 n x1 x2 → jR x1 → jR x2 → Hp G M s.heap H locs → lv_has ls 3 [(1, .int (jI x1)), (2, .int (jI x2)), (0, .ref (jD G o))] → W p l e (rmm 0 0) s m args below meth c H locs 0 0 (MQ below (qI G (fun r M' => M' = M ∧ k r)) args s 0 0 (gA G)) (F0 m 4 ls []) := by
    intro n
    induction n with
    | zero => intro x1 x2 H locs ls h; exact (show False from h).elim
    | succ n ih4 =>
      intro x1 x2 H locs ls h r_x1 r_x2 B hl
      rw [lp_X4_associatedCount_4] at h
      refine lv_iload_n C.1 C.2.1 dX4_associatedCount_4 rfl (lv_at hl 1 rfl) ?_
      refine jr_iconst C dX4_associatedCount_5 ?_
      refine jr_icmp_ge (tgt := 27) C r_x2 (jkc rfl) h dX4_associatedCount_6 (by decide) (fun hc6 h => ?_) (fun hc6 h => ?_)
      · refine lv_aload_n C.1 C.2.1 dX4_associatedCount_9 rfl (lv_at hl 2 rfl) ?_
        refine gf_X4_22 C B k_o dX4_associatedCount_10 ?_
        refine lv_iload_n C.1 C.2.1 dX4_associatedCount_13 rfl (lv_at hl 1 rfl) ?_
        obtain ⟨g4, h⟩ := h
        refine jr_zald C B 4 (jk1 (ko_X4_2 k_o) rfl) (jk2 (ko_X4_2 k_o) rfl) r_x2 g4 dX4_associatedCount_14 ?_
        refine jr_if_eq (tgt := 21) C (zR (jz_a o_M (jk1 (ko_X4_2 k_o) rfl) x2)) h dX4_associatedCount_15 (by decide) (fun hc15 h => ?_) (fun hc15 h => ?_)
        · refine jr_iinc (k := 1) (lv' := fun x5 => [(2, .int (jI x5)), (1, .int (jI x1)), (0, .ref (jD G o))]) C h hl rfl (by decide) (fun _ => rfl) dX4_associatedCount_21 (fun x5 h r_x5 ls hl => ?_)
          refine lv_goto (tgt := 4) C.1 C.2.1 dX4_associatedCount_24 (by decide) ?_
          exact ih4 _ _ _ _ _ h r_x1 r_x5 B (lv_sub hl [1, 0, 2] rfl)
        · refine jr_iinc (k := 0) (lv' := fun x6 => [(1, .int (jI x6)), (2, .int (jI x2)), (0, .ref (jD G o))]) C h hl rfl (by decide) (fun _ => rfl) dX4_associatedCount_18 (fun x6 h r_x6 ls hl => ?_)
          refine jr_iinc (k := 1) (lv' := fun x7 => [(2, .int (jI x7)), (1, .int (jI x6)), (0, .ref (jD G o))]) C h hl rfl (by decide) (fun _ => rfl) dX4_associatedCount_21 (fun x7 h r_x7 ls hl => ?_)
          refine lv_goto (tgt := 4) C.1 C.2.1 dX4_associatedCount_24 (by decide) ?_
          exact ih4 _ _ _ _ _ h r_x6 r_x7 B (lv_sub hl [1, 0, 2] rfl)
      · exact hkx4 _ _ _ _ h r_x1 B (lv_sub hl [0] rfl)
  exact hL4 N _ _ _ _ _ h (jkc rfl) (jkc rfl) B (lv_sub hl [1, 0, 2] rfl)
theorem cl_X4_associatedCount {p : Program} {l : Launch} {e : Env} {R : Room} {s : State} {m : MethodId} {args : Array Value} {below : List Frame} {meth : Method} {c : Code} {H : Heap} {locs : List Loc} {cells slots : Nat} {Q : State → Prop} {cc : ByteArray} {nL : Nat} {own : String} {G : jG} {H0 : Heap} {pc idx : Nat} {ls : Array Slot} {rest : List Value} {N : Nat} {M : jM} {o : Int} {k : Int → Prop} (C : Cx G p s args m c cc nL own) (hl : ls.size = nL) (B : Hp G M H0 H locs) (q1 : Cond.methodLink own idx yX4_associatedCount ∈ tb) (hR : (rmm 0 0).frames + 1 ≤ R.frames ∧ 8 + (3 + 11) + (rmm 0 0).locals ≤ R.locals) (hcs : cells ≤ R.cells ∧ slots ≤ R.slots) (hW : (rest.map fun v => v.category).sum ≤ 8) (k_o : jK o = 5) (h : w_X4_associatedCount N M o k) (hdg : decode cc pc = .ok (.invokevirtual idx, 3)) (kk : ∀ (r : Int), jR r → ∀ (H1 : Heap) (locs1 : List Loc), k r → Hp G M H0 H1 locs1 → W p l e R s m args below meth c H1 locs1 cells slots Q (F0 m (pc + 3) ls (.int (jI r) :: rest))) : W p l e R s m args below meth c H locs cells slots Q (F0 m pc ls (.ref (jD G o) :: rest)) :=
  jr_callI B (jr_runV (o := o) (As := []) (n := 0) C hl B (m_X4_associatedCount B.2.2 k_o h) (jE5 k_o) (by omega) rfl q1 q_676 q_677 q_678 q_2 ⟨by decide, by decide, by decide +kernel⟩ rfl ⟨rfl, rfl⟩ hR hcs rfl hW hdg) (fun r M' H1 locs1 hr hk B1 => by obtain ⟨rfl, hk⟩ := hk; exact kk r hr H1 locs1 hk B1)
def lp_X4_lineCount_4 (o : Int) (a1 : Int) (M : jM) (kx4 : Int → Prop) : Nat → Int → Int → Prop
  | 0, _, _ => False
  | n + 1, x1, x2 => (if x2 < 4 then (jB x2 4 ∧ (if (M (o + 42) x2) = 0 then (jL (jW (x2 + 1)) (fun x5 => (lp_X4_lineCount_4 o a1 M kx4 n x1 x5))) else (w_X1_valueCount M a1 x2 (fun x6 => (jL (jMax x1 x6) (fun x7 => (jL (jW (x2 + 1)) (fun x8 => (lp_X4_lineCount_4 o a1 M kx4 n x7 x8))))))))) else (kx4 x1))
def w_X4_lineCount (N : Nat) (M : jM) (o : Int) (a1 : Int) (k : Int → Prop) : Prop := (lp_X4_lineCount_4 o a1 M (fun (x3 : Int) => (k x3)) N 0 0)
set_option maxHeartbeats 4000000 in
set_option maxRecDepth 100000 in
theorem m_X4_lineCount {l : Launch} {G : jG} {N : Nat} {M : jM} {o a1 : Int} {k : Int → Prop} (o_M : jOK M) (k_o : jK o = 5) (k_a1 : jK a1 = 2) (h : w_X4_lineCount N M o a1 k) : Met l yX4_lineCount (wsG yX4_lineCount cX4_lineCount 4 (some .int)) (rmm 1 40) (jPc G M [.ref (jD G o), .ref (jD G a1)]) (qI G (fun r M' => M' = M ∧ k r)) 0 0 (gA G) := by
  refine jm_start RX4 rfl (by decide) (Nat.le_of_ble_eq_true rfl) o_M ?_
  intro p e s m args below meth c ls C hr hlocks hl B
  have hl : lv_has ls 4 [(0, .ref (jD G o)), (1, .ref (jD G a1))] := hl
  unfold w_X4_lineCount at h
  refine jr_iconst C dX4_lineCount_0 ?_
  refine lv_istore_n (lv' := [(2, .int (jI 0)), (0, .ref (jD G o)), (1, .ref (jD G a1))]) C.1 C.2.1 dX4_lineCount_1 rfl hl (by decide) rfl (fun ls hl => ?_)
  refine jr_iconst C dX4_lineCount_2 ?_
  refine lv_istore_n (lv' := [(3, .int (jI 0)), (2, .int (jI 0)), (0, .ref (jD G o)), (1, .ref (jD G a1))]) C.1 C.2.1 dX4_lineCount_3 rfl hl (by decide) rfl (fun ls hl => ?_)
  obtain ⟨kx4, hkx4, h⟩ : ∃ kx4 : Int → Prop, (∀ (x3 : Int) (H : Heap) (locs : List Loc) (ls : Array Slot), kx4 x3 → jR x3 → Hp G M s.heap H locs → lv_has ls 4 [(2, .int (jI x3))] → W p l e (rmm 1 40) s m args below meth c H locs 0 0 (MQ below (qI G (fun r M' => M' = M ∧ k r)) args s 0 0 (gA G)) (F0 m 34 ls [])) ∧ lp_X4_lineCount_4 o a1 M kx4 N 0 0 := by
    refine ⟨_, ?_, h⟩
    intro x3 H locs ls h r_x3 B hl
    refine lv_iload_n C.1 C.2.1 dX4_lineCount_34 rfl (lv_at hl 0 rfl) ?_
    exact jr_iret C B hr hlocks r_x3 ⟨rfl, h⟩ dX4_lineCount_35
  have hL4 : ∀ (n : Nat) (x1 : Int) (x2 : Int) (H : Heap) (locs : List Loc) (ls : Array Slot), lp_X4_lineCount_4 o a1 M kx4 n x1 x2 → jR x1 → jR x2 → Hp G M s.heap H locs → lv_has ls 4 [(2, .int (jI x1)), (3, .int (jI x2)), (0, .ref (jD G o)), (1, .ref (jD G a1))] → W p l e (rmm 1 40) s m args below meth c H locs 0 0 (MQ below (qI G (fun r M' => M' = M ∧ k r)) args s 0 0 (gA G)) (F0 m 4 ls []) := by
    intro n
    induction n with
    | zero => intro x1 x2 H locs ls h; exact (show False from h).elim
    | succ n ih4 =>
      intro x1 x2 H locs ls h r_x1 r_x2 B hl
      rw [lp_X4_lineCount_4] at h
      refine lv_iload_n C.1 C.2.1 dX4_lineCount_4 rfl (lv_at hl 1 rfl) ?_
      refine jr_iconst C dX4_lineCount_5 ?_
      refine jr_icmp_ge (tgt := 34) C r_x2 (jkc rfl) h dX4_lineCount_6 (by decide) (fun hc6 h => ?_) (fun hc6 h => ?_)
      · refine lv_aload_n C.1 C.2.1 dX4_lineCount_9 rfl (lv_at hl 2 rfl) ?_
        refine gf_X4_22 C B k_o dX4_lineCount_10 ?_
        refine lv_iload_n C.1 C.2.1 dX4_lineCount_13 rfl (lv_at hl 1 rfl) ?_
        obtain ⟨g4, h⟩ := h
        refine jr_zald C B 4 (jk1 (ko_X4_2 k_o) rfl) (jk2 (ko_X4_2 k_o) rfl) r_x2 g4 dX4_lineCount_14 ?_
        refine jr_if_eq (tgt := 28) C (zR (jz_a o_M (jk1 (ko_X4_2 k_o) rfl) x2)) h dX4_lineCount_15 (by decide) (fun hc15 h => ?_) (fun hc15 h => ?_)
        · refine jr_iinc (k := 1) (lv' := fun x5 => [(3, .int (jI x5)), (2, .int (jI x1)), (0, .ref (jD G o)), (1, .ref (jD G a1))]) C h hl rfl (by decide) (fun _ => rfl) dX4_lineCount_28 (fun x5 h r_x5 ls hl => ?_)
          refine lv_goto (tgt := 4) C.1 C.2.1 dX4_lineCount_31 (by decide) ?_
          exact ih4 _ _ _ _ _ h r_x1 r_x5 B (lv_sub hl [1, 0, 2, 3] rfl)
        · refine lv_iload_n C.1 C.2.1 dX4_lineCount_18 rfl (lv_at hl 0 rfl) ?_
          refine lv_aload_n C.1 C.2.1 dX4_lineCount_19 rfl (lv_at hl 3 rfl) ?_
          refine lv_iload_n C.1 C.2.1 dX4_lineCount_20 rfl (lv_at hl 1 rfl) ?_
          refine cl_X1_valueCount C hl.1 B q_331 ⟨Nat.le_of_ble_eq_true rfl, Nat.le_of_ble_eq_true rfl⟩ ⟨Nat.zero_le _, Nat.zero_le _⟩ (Nat.le_of_ble_eq_true rfl) k_a1 r_x2 h dX4_lineCount_21 (fun x6 r_x6 _ _ h B => ?_)
          refine jr_mmax C hl.1 q_332 q_333 q_8 q_334 r_x1 r_x6 (Nat.le_of_ble_eq_true rfl) (Nat.le_of_ble_eq_true rfl) ⟨Nat.zero_le _, Nat.zero_le _⟩ dX4_lineCount_24 ?_
          refine jr_nm h (jMax_R r_x1 r_x6) (fun x7 h r_x7 => ?_)
          refine lv_istore_n (lv' := [(2, .int (jI x7)), (3, .int (jI x2)), (0, .ref (jD G o)), (1, .ref (jD G a1))]) C.1 C.2.1 dX4_lineCount_27 rfl hl (by decide) rfl (fun ls hl => ?_)
          refine jr_iinc (k := 1) (lv' := fun x8 => [(3, .int (jI x8)), (2, .int (jI x7)), (0, .ref (jD G o)), (1, .ref (jD G a1))]) C h hl rfl (by decide) (fun _ => rfl) dX4_lineCount_28 (fun x8 h r_x8 ls hl => ?_)
          refine lv_goto (tgt := 4) C.1 C.2.1 dX4_lineCount_31 (by decide) ?_
          exact ih4 _ _ _ _ _ h r_x7 r_x8 B (lv_sub hl [1, 0, 2, 3] rfl)
      · exact hkx4 _ _ _ _ h r_x1 B (lv_sub hl [0] rfl)
  exact hL4 N _ _ _ _ _ h (jkc rfl) (jkc rfl) B (lv_sub hl [1, 0, 2, 3] rfl)
theorem cl_X4_lineCount {p : Program} {l : Launch} {e : Env} {R : Room} {s : State} {m : MethodId} {args : Array Value} {below : List Frame} {meth : Method} {c : Code} {H : Heap} {locs : List Loc} {cells slots : Nat} {Q : State → Prop} {cc : ByteArray} {nL : Nat} {own : String} {G : jG} {H0 : Heap} {pc idx : Nat} {ls : Array Slot} {rest : List Value} {N : Nat} {M : jM} {o a1 : Int} {k : Int → Prop} (C : Cx G p s args m c cc nL own) (hl : ls.size = nL) (B : Hp G M H0 H locs) (q1 : Cond.methodLink own idx yX4_lineCount ∈ tb) (hR : (rmm 1 40).frames + 1 ≤ R.frames ∧ 8 + (4 + 11) + (rmm 1 40).locals ≤ R.locals) (hcs : cells ≤ R.cells ∧ slots ≤ R.slots) (hW : (rest.map fun v => v.category).sum ≤ 8) (k_o : jK o = 5) (k_a1 : jK a1 = 2) (h : w_X4_lineCount N M o a1 k) (hdg : decode cc pc = .ok (.invokevirtual idx, 3)) (kk : ∀ (r : Int), jR r → ∀ (H1 : Heap) (locs1 : List Loc), k r → Hp G M H0 H1 locs1 → W p l e R s m args below meth c H1 locs1 cells slots Q (F0 m (pc + 3) ls (.int (jI r) :: rest))) : W p l e R s m args below meth c H locs cells slots Q (F0 m pc ls (.ref (jD G a1) :: .ref (jD G o) :: rest)) :=
  jr_callI B (jr_runV (o := o) (As := [.ref (jD G a1)]) (n := 1) C hl B (m_X4_lineCount B.2.2 k_o k_a1 h) (jE5 k_o) (by omega) rfl q1 q_328 q_329 q_330 q_2 ⟨by decide, by decide, by decide +kernel⟩ rfl ⟨rfl, rfl⟩ hR hcs rfl hW hdg) (fun r M' H1 locs1 hr hk B1 => by obtain ⟨rfl, hk⟩ := hk; exact kk r hr H1 locs1 hk B1)
def w_X4_setColumn (M : jM) (o : Int) (a1 : Int) (a2 : Int) (a3 : Int) (a4 : Int) (k : jM → Prop) : Prop := (jB a1 6 ∧ jL (jU M (o + 43) a1 a2) (fun M1 => (jB a1 6 ∧ jL (jU M1 (o + 44) a1 a3) (fun M2 => (jB a1 6 ∧ jL (jU M2 (o + 45) a1 a4) (fun M3 => (k M3)))))))
set_option maxHeartbeats 4000000 in
set_option maxRecDepth 100000 in
theorem m_X4_setColumn {l : Launch} {G : jG} {M : jM} {o a1 a2 a3 a4 : Int} {k : jM → Prop} (o_M : jOK M) (k_o : jK o = 5) (r_a1 : jR a1) (r_a2 : jR a2) (r_a3 : jR a3) (r_a4 : jR a4) (h : w_X4_setColumn M o a1 a2 a3 a4 k) : Met l yX4_setColumn (wsG yX4_setColumn cX4_setColumn 5 none) (rmm 0 0) (jPc G M [.ref (jD G o), .int (jI a1), .int (jI a2), .int (jI a3), .int (jI a4)]) (qV G k) 0 0 (gA G) := by
  refine jm_start RX4 rfl (by decide) (Nat.le_of_ble_eq_true rfl) o_M ?_
  intro p e s m args below meth c ls C hr hlocks hl B
  have hl : lv_has ls 5 [(0, .ref (jD G o)), (1, .int (jI a1)), (2, .int (jI a2)), (3, .int (jI a3)), (4, .int (jI a4))] := hl
  unfold w_X4_setColumn at h
  refine lv_aload_n C.1 C.2.1 dX4_setColumn_0 rfl (lv_at hl 0 rfl) ?_
  refine gf_X4_26 C B k_o dX4_setColumn_1 ?_
  refine lv_iload_n C.1 C.2.1 dX4_setColumn_4 rfl (lv_at hl 1 rfl) ?_
  refine lv_iload_n C.1 C.2.1 dX4_setColumn_5 rfl (lv_at hl 2 rfl) ?_
  refine jr_iast C B 6 (jk1 (ko_X4_3 k_o) rfl) (jk2 (ko_X4_3 k_o) rfl) r_a1 r_a2 h dX4_setColumn_6 (fun M1 _ _ h B => ?_)
  have o_M1 := B.2.2
  refine lv_aload_n C.1 C.2.1 dX4_setColumn_7 rfl (lv_at hl 0 rfl) ?_
  refine gf_X4_30 C B k_o dX4_setColumn_8 ?_
  refine lv_iload_n C.1 C.2.1 dX4_setColumn_11 rfl (lv_at hl 1 rfl) ?_
  refine lv_iload_n C.1 C.2.1 dX4_setColumn_12 rfl (lv_at hl 3 rfl) ?_
  refine jr_iast C B 6 (jk1 (ko_X4_4 k_o) rfl) (jk2 (ko_X4_4 k_o) rfl) r_a1 r_a3 h dX4_setColumn_13 (fun M2 _ _ h B => ?_)
  have o_M2 := B.2.2
  refine lv_aload_n C.1 C.2.1 dX4_setColumn_14 rfl (lv_at hl 0 rfl) ?_
  refine gf_X4_33 C B k_o dX4_setColumn_15 ?_
  refine lv_iload_n C.1 C.2.1 dX4_setColumn_18 rfl (lv_at hl 1 rfl) ?_
  refine lv_iload C.1 C.2.1 dX4_setColumn_19 (lv_at hl 4 rfl) ?_
  refine jr_iast C B 6 (jk1 (ko_X4_5 k_o) rfl) (jk2 (ko_X4_5 k_o) rfl) r_a1 r_a4 h dX4_setColumn_21 (fun M3 _ _ h B => ?_)
  have o_M3 := B.2.2
  exact jr_vret C B hr hlocks h dX4_setColumn_22
theorem cl_X4_setColumn {p : Program} {l : Launch} {e : Env} {R : Room} {s : State} {m : MethodId} {args : Array Value} {below : List Frame} {meth : Method} {c : Code} {H : Heap} {locs : List Loc} {cells slots : Nat} {Q : State → Prop} {cc : ByteArray} {nL : Nat} {own : String} {G : jG} {H0 : Heap} {pc idx : Nat} {ls : Array Slot} {rest : List Value} {M : jM} {o a1 a2 a3 a4 : Int} {k : jM → Prop} (C : Cx G p s args m c cc nL own) (hl : ls.size = nL) (B : Hp G M H0 H locs) (q1 : Cond.methodLink own idx yX4_setColumn ∈ tb) (hR : (rmm 0 0).frames + 1 ≤ R.frames ∧ 8 + (5 + 11) + (rmm 0 0).locals ≤ R.locals) (hcs : cells ≤ R.cells ∧ slots ≤ R.slots) (hW : (rest.map fun v => v.category).sum ≤ 8) (k_o : jK o = 5) (r_a1 : jR a1) (r_a2 : jR a2) (r_a3 : jR a3) (r_a4 : jR a4) (h : w_X4_setColumn M o a1 a2 a3 a4 k) (hdg : decode cc pc = .ok (.invokevirtual idx, 3)) (kk : ∀ (M' : jM) (H1 : Heap) (locs1 : List Loc), k M' → Hp G M' H0 H1 locs1 → W p l e R s m args below meth c H1 locs1 cells slots Q (F0 m (pc + 3) ls rest)) : W p l e R s m args below meth c H locs cells slots Q (F0 m pc ls (.int (jI a4) :: .int (jI a3) :: .int (jI a2) :: .int (jI a1) :: .ref (jD G o) :: rest)) :=
  jr_callV B (jr_runV (o := o) (As := [.int (jI a1), .int (jI a2), .int (jI a3), .int (jI a4)]) (n := 4) C hl B (m_X4_setColumn B.2.2 k_o r_a1 r_a2 r_a3 r_a4 h) (jE5 k_o) (by omega) rfl q1 q_54 q_55 q_56 q_2 ⟨by decide, by decide, by decide +kernel⟩ rfl ⟨rfl, rfl⟩ hR hcs rfl hW hdg) (fun M' H1 locs1 hk B1 => kk M' H1 locs1 hk B1)
def w_X4_gather (N : Nat) (M : jM) (o : Int) (a1 : Int) (a2 : Int) (a3 : Int) (k : jM → Prop) : Prop := (jL (jU M a3 1 0) (fun M1 => (jB a2 6 ∧ (if (M1 (o + 43) a2) = 0 then (jB a2 6 ∧ (w_X1_giveSubs N M1 a1 (M1 (o + 44) a2) a3 (fun M4 => (k M4)))) else (if (M1 (o + 43) a2) = 1 then (jB a2 6 ∧ (w_X1_valueCount M1 a1 (M1 (o + 44) a2) (fun x6 => (w_X2_add M1 a3 x6 (fun M7 => (k M7)))))) else (if (M1 (o + 43) a2) = 2 then (jB a2 6 ∧ (w_X1_giveSum N M1 a1 (M1 (o + 44) a2) a3 (fun M9 => (k M9)))) else (if (M1 (o + 43) a2) = 3 then (jB a2 6 ∧ (w_X1_giveGreatest N M1 a1 (M1 (o + 44) a2) a3 (fun M11 => (k M11)))) else (jB a2 6 ∧ (jB a2 6 ∧ (w_X1_giveProducts N M1 a1 (M1 (o + 44) a2) (M1 (o + 45) a2) a3 (fun M14 => (k M14))))))))))))
set_option maxHeartbeats 4000000 in
set_option maxRecDepth 100000 in
theorem m_X4_gather {l : Launch} {G : jG} {N : Nat} {M : jM} {o a1 a2 a3 : Int} {k : jM → Prop} (o_M : jOK M) (k_o : jK o = 5) (k_a1 : jK a1 = 2) (r_a2 : jR a2) (k_a3 : jK a3 = 3) (h : w_X4_gather N M o a1 a2 a3 k) : Met l yX4_gather (wsG yX4_gather cX4_gather 4 none) (rmm 3 70) (jPc G M [.ref (jD G o), .ref (jD G a1), .int (jI a2), .ref (jD G a3)]) (qV G k) 0 0 (gA G) := by
  refine jm_start RX4 rfl (by decide) (Nat.le_of_ble_eq_true rfl) o_M ?_
  intro p e s m args below meth c ls C hr hlocks hl B
  have hl : lv_has ls 4 [(0, .ref (jD G o)), (1, .ref (jD G a1)), (2, .int (jI a2)), (3, .ref (jD G a3))] := hl
  unfold w_X4_gather at h
  refine lv_aload_n C.1 C.2.1 dX4_gather_0 rfl (lv_at hl 3 rfl) ?_
  refine jr_iconst C dX4_gather_1 ?_
  refine pf_X4_73 C B k_a3 (jkc rfl) h dX4_gather_2 (fun M1 _ _ h B => ?_)
  have o_M1 := B.2.2
  refine lv_aload_n C.1 C.2.1 dX4_gather_5 rfl (lv_at hl 0 rfl) ?_
  refine gf_X4_26 C B k_o dX4_gather_6 ?_
  refine lv_iload_n C.1 C.2.1 dX4_gather_9 rfl (lv_at hl 2 rfl) ?_
  obtain ⟨g2, h⟩ := h
  refine jr_iald C B 6 (jk1 (ko_X4_3 k_o) rfl) (jk2 (ko_X4_3 k_o) rfl) r_a2 g2 dX4_gather_10 ?_
  by_cases hs11_0 : (M1 (o + 43) a2) = 0
  · rw [if_pos hs11_0] at h
    refine jr_tableIn (v := 0) (off := 29) (tgt := 40) C (o_M1 (o + 43) a2).1 hs11_0 (by decide) (by decide) (by decide) dX4_gather_11 (by decide) ?_
    refine lv_aload_n C.1 C.2.1 dX4_gather_40 rfl (lv_at hl 1 rfl) ?_
    refine lv_aload_n C.1 C.2.1 dX4_gather_41 rfl (lv_at hl 0 rfl) ?_
    refine gf_X4_30 C B k_o dX4_gather_42 ?_
    refine lv_iload_n C.1 C.2.1 dX4_gather_45 rfl (lv_at hl 2 rfl) ?_
    obtain ⟨g3, h⟩ := h
    refine jr_iald C B 6 (jk1 (ko_X4_4 k_o) rfl) (jk2 (ko_X4_4 k_o) rfl) r_a2 g3 dX4_gather_46 ?_
    refine lv_aload_n C.1 C.2.1 dX4_gather_47 rfl (lv_at hl 3 rfl) ?_
    refine cl_X1_giveSubs C hl.1 B q_346 ⟨Nat.le_of_ble_eq_true rfl, Nat.le_of_ble_eq_true rfl⟩ ⟨Nat.zero_le _, Nat.zero_le _⟩ (Nat.le_of_ble_eq_true rfl) k_a1 (o_M1 (o + 44) a2).1 k_a3 h dX4_gather_48 (fun M4 _ _ h B => ?_)
    have o_M4 := B.2.2
    refine lv_goto (tgt := 116) C.1 C.2.1 dX4_gather_51 (by decide) ?_
    exact jr_vret C B hr hlocks h dX4_gather_116
  · rw [if_neg hs11_0] at h
    by_cases hs11_1 : (M1 (o + 43) a2) = 1
    · rw [if_pos hs11_1] at h
      refine jr_tableIn (v := 1) (off := 43) (tgt := 54) C (o_M1 (o + 43) a2).1 hs11_1 (by decide) (by decide) (by decide) dX4_gather_11 (by decide) ?_
      refine lv_aload_n C.1 C.2.1 dX4_gather_54 rfl (lv_at hl 3 rfl) ?_
      refine lv_aload_n C.1 C.2.1 dX4_gather_55 rfl (lv_at hl 1 rfl) ?_
      refine lv_aload_n C.1 C.2.1 dX4_gather_56 rfl (lv_at hl 0 rfl) ?_
      refine gf_X4_30 C B k_o dX4_gather_57 ?_
      refine lv_iload_n C.1 C.2.1 dX4_gather_60 rfl (lv_at hl 2 rfl) ?_
      obtain ⟨g5, h⟩ := h
      refine jr_iald C B 6 (jk1 (ko_X4_4 k_o) rfl) (jk2 (ko_X4_4 k_o) rfl) r_a2 g5 dX4_gather_61 ?_
      refine cl_X1_valueCount C hl.1 B q_331 ⟨Nat.le_of_ble_eq_true rfl, Nat.le_of_ble_eq_true rfl⟩ ⟨Nat.zero_le _, Nat.zero_le _⟩ (Nat.le_of_ble_eq_true rfl) k_a1 (o_M1 (o + 44) a2).1 h dX4_gather_62 (fun x6 r_x6 _ _ h B => ?_)
      refine cl_X2_add C hl.1 B q_355 ⟨Nat.le_of_ble_eq_true rfl, Nat.le_of_ble_eq_true rfl⟩ ⟨Nat.zero_le _, Nat.zero_le _⟩ (Nat.le_of_ble_eq_true rfl) k_a3 r_x6 h dX4_gather_65 (fun M7 _ _ h B => ?_)
      have o_M7 := B.2.2
      refine lv_goto (tgt := 116) C.1 C.2.1 dX4_gather_68 (by decide) ?_
      exact jr_vret C B hr hlocks h dX4_gather_116
    · rw [if_neg hs11_1] at h
      by_cases hs11_2 : (M1 (o + 43) a2) = 2
      · rw [if_pos hs11_2] at h
        refine jr_tableIn (v := 2) (off := 60) (tgt := 71) C (o_M1 (o + 43) a2).1 hs11_2 (by decide) (by decide) (by decide) dX4_gather_11 (by decide) ?_
        refine lv_aload_n C.1 C.2.1 dX4_gather_71 rfl (lv_at hl 1 rfl) ?_
        refine lv_aload_n C.1 C.2.1 dX4_gather_72 rfl (lv_at hl 0 rfl) ?_
        refine gf_X4_30 C B k_o dX4_gather_73 ?_
        refine lv_iload_n C.1 C.2.1 dX4_gather_76 rfl (lv_at hl 2 rfl) ?_
        obtain ⟨g8, h⟩ := h
        refine jr_iald C B 6 (jk1 (ko_X4_4 k_o) rfl) (jk2 (ko_X4_4 k_o) rfl) r_a2 g8 dX4_gather_77 ?_
        refine lv_aload_n C.1 C.2.1 dX4_gather_78 rfl (lv_at hl 3 rfl) ?_
        refine cl_X1_giveSum C hl.1 B q_356 ⟨Nat.le_of_ble_eq_true rfl, Nat.le_of_ble_eq_true rfl⟩ ⟨Nat.zero_le _, Nat.zero_le _⟩ (Nat.le_of_ble_eq_true rfl) k_a1 (o_M1 (o + 44) a2).1 k_a3 h dX4_gather_79 (fun M9 _ _ h B => ?_)
        have o_M9 := B.2.2
        refine lv_goto (tgt := 116) C.1 C.2.1 dX4_gather_82 (by decide) ?_
        exact jr_vret C B hr hlocks h dX4_gather_116
      · rw [if_neg hs11_2] at h
        by_cases hs11_3 : (M1 (o + 43) a2) = 3
        · rw [if_pos hs11_3] at h
          refine jr_tableIn (v := 3) (off := 74) (tgt := 85) C (o_M1 (o + 43) a2).1 hs11_3 (by decide) (by decide) (by decide) dX4_gather_11 (by decide) ?_
          refine lv_aload_n C.1 C.2.1 dX4_gather_85 rfl (lv_at hl 1 rfl) ?_
          refine lv_aload_n C.1 C.2.1 dX4_gather_86 rfl (lv_at hl 0 rfl) ?_
          refine gf_X4_30 C B k_o dX4_gather_87 ?_
          refine lv_iload_n C.1 C.2.1 dX4_gather_90 rfl (lv_at hl 2 rfl) ?_
          obtain ⟨g10, h⟩ := h
          refine jr_iald C B 6 (jk1 (ko_X4_4 k_o) rfl) (jk2 (ko_X4_4 k_o) rfl) r_a2 g10 dX4_gather_91 ?_
          refine lv_aload_n C.1 C.2.1 dX4_gather_92 rfl (lv_at hl 3 rfl) ?_
          refine cl_X1_giveGreatest C hl.1 B q_365 ⟨Nat.le_of_ble_eq_true rfl, Nat.le_of_ble_eq_true rfl⟩ ⟨Nat.zero_le _, Nat.zero_le _⟩ (Nat.le_of_ble_eq_true rfl) k_a1 (o_M1 (o + 44) a2).1 k_a3 h dX4_gather_93 (fun M11 _ _ h B => ?_)
          have o_M11 := B.2.2
          refine lv_goto (tgt := 116) C.1 C.2.1 dX4_gather_96 (by decide) ?_
          exact jr_vret C B hr hlocks h dX4_gather_116
        · rw [if_neg hs11_3] at h
          refine jr_tableOut (tgt := 99) C (o_M1 (o + 43) a2).1 (by omega) dX4_gather_11 (by decide) ?_
          refine lv_aload_n C.1 C.2.1 dX4_gather_99 rfl (lv_at hl 1 rfl) ?_
          refine lv_aload_n C.1 C.2.1 dX4_gather_100 rfl (lv_at hl 0 rfl) ?_
          refine gf_X4_30 C B k_o dX4_gather_101 ?_
          refine lv_iload_n C.1 C.2.1 dX4_gather_104 rfl (lv_at hl 2 rfl) ?_
          obtain ⟨g12, h⟩ := h
          refine jr_iald C B 6 (jk1 (ko_X4_4 k_o) rfl) (jk2 (ko_X4_4 k_o) rfl) r_a2 g12 dX4_gather_105 ?_
          refine lv_aload_n C.1 C.2.1 dX4_gather_106 rfl (lv_at hl 0 rfl) ?_
          refine gf_X4_33 C B k_o dX4_gather_107 ?_
          refine lv_iload_n C.1 C.2.1 dX4_gather_110 rfl (lv_at hl 2 rfl) ?_
          obtain ⟨g13, h⟩ := h
          refine jr_iald C B 6 (jk1 (ko_X4_5 k_o) rfl) (jk2 (ko_X4_5 k_o) rfl) r_a2 g13 dX4_gather_111 ?_
          refine lv_aload_n C.1 C.2.1 dX4_gather_112 rfl (lv_at hl 3 rfl) ?_
          refine cl_X1_giveProducts C hl.1 B q_370 ⟨Nat.le_of_ble_eq_true rfl, Nat.le_of_ble_eq_true rfl⟩ ⟨Nat.zero_le _, Nat.zero_le _⟩ (Nat.le_of_ble_eq_true rfl) k_a1 (o_M1 (o + 44) a2).1 (o_M1 (o + 45) a2).1 k_a3 h dX4_gather_113 (fun M14 _ _ h B => ?_)
          have o_M14 := B.2.2
          exact jr_vret C B hr hlocks h dX4_gather_116
theorem cl_X4_gather {p : Program} {l : Launch} {e : Env} {R : Room} {s : State} {m : MethodId} {args : Array Value} {below : List Frame} {meth : Method} {c : Code} {H : Heap} {locs : List Loc} {cells slots : Nat} {Q : State → Prop} {cc : ByteArray} {nL : Nat} {own : String} {G : jG} {H0 : Heap} {pc idx : Nat} {ls : Array Slot} {rest : List Value} {N : Nat} {M : jM} {o a1 a2 a3 : Int} {k : jM → Prop} (C : Cx G p s args m c cc nL own) (hl : ls.size = nL) (B : Hp G M H0 H locs) (q1 : Cond.methodLink own idx yX4_gather ∈ tb) (hR : (rmm 3 70).frames + 1 ≤ R.frames ∧ 8 + (4 + 11) + (rmm 3 70).locals ≤ R.locals) (hcs : cells ≤ R.cells ∧ slots ≤ R.slots) (hW : (rest.map fun v => v.category).sum ≤ 8) (k_o : jK o = 5) (k_a1 : jK a1 = 2) (r_a2 : jR a2) (k_a3 : jK a3 = 3) (h : w_X4_gather N M o a1 a2 a3 k) (hdg : decode cc pc = .ok (.invokevirtual idx, 3)) (kk : ∀ (M' : jM) (H1 : Heap) (locs1 : List Loc), k M' → Hp G M' H0 H1 locs1 → W p l e R s m args below meth c H1 locs1 cells slots Q (F0 m (pc + 3) ls rest)) : W p l e R s m args below meth c H locs cells slots Q (F0 m pc ls (.ref (jD G a3) :: .int (jI a2) :: .ref (jD G a1) :: .ref (jD G o) :: rest)) :=
  jr_callV B (jr_runV (o := o) (As := [.ref (jD G a1), .int (jI a2), .ref (jD G a3)]) (n := 3) C hl B (m_X4_gather B.2.2 k_o k_a1 r_a2 k_a3 h) (jE5 k_o) (by omega) rfl q1 q_343 q_344 q_345 q_2 ⟨by decide, by decide, by decide +kernel⟩ rfl ⟨rfl, rfl⟩ hR hcs rfl hW hdg) (fun M' H1 locs1 hk B1 => kk M' H1 locs1 hk B1)
def w_X4_isListed (M : jM) (o : Int) (a1 : Int) (a2 : Int) (k : Int → Prop) : Prop := (jB (jW ((jW (a1 * 100)) + a2)) 800 ∧ (k (M (o + 46) (jW ((jW (a1 * 100)) + a2)))))
set_option maxHeartbeats 4000000 in
set_option maxRecDepth 100000 in
theorem m_X4_isListed {l : Launch} {G : jG} {M : jM} {o a1 a2 : Int} {k : Int → Prop} (o_M : jOK M) (k_o : jK o = 5) (r_a1 : jR a1) (r_a2 : jR a2) (h : w_X4_isListed M o a1 a2 k) : Met l yX4_isListed (wsG yX4_isListed cX4_isListed 3 (some .boolean)) (rmm 0 0) (jPc G M [.ref (jD G o), .int (jI a1), .int (jI a2)]) (qZ G (fun r M' => M' = M ∧ k r)) 0 0 (gA G) := by
  refine jm_start RX4 rfl (by decide) (Nat.le_of_ble_eq_true rfl) o_M ?_
  intro p e s m args below meth c ls C hr hlocks hl B
  have hl : lv_has ls 3 [(0, .ref (jD G o)), (1, .int (jI a1)), (2, .int (jI a2))] := hl
  unfold w_X4_isListed at h
  refine lv_aload_n C.1 C.2.1 dX4_isListed_0 rfl (lv_at hl 0 rfl) ?_
  refine gf_X4_40 C B k_o dX4_isListed_1 ?_
  refine lv_iload_n C.1 C.2.1 dX4_isListed_4 rfl (lv_at hl 1 rfl) ?_
  refine jr_bipush C dX4_isListed_5 (by decide) ?_
  refine jr_imul C dX4_isListed_7 ?_
  refine lv_iload_n C.1 C.2.1 dX4_isListed_8 rfl (lv_at hl 2 rfl) ?_
  refine jr_iadd C dX4_isListed_9 ?_
  obtain ⟨g1, h⟩ := h
  refine jr_zald C B 800 (jk1 (ko_X4_6 k_o) rfl) (jk2 (ko_X4_6 k_o) rfl) (jW_R _) g1 dX4_isListed_10 ?_
  exact jr_zret C B hr hlocks (jz_a o_M (jk1 (ko_X4_6 k_o) rfl) (jW ((jW (a1 * 100)) + a2))) ⟨rfl, h⟩ dX4_isListed_11
theorem cl_X4_isListed {p : Program} {l : Launch} {e : Env} {R : Room} {s : State} {m : MethodId} {args : Array Value} {below : List Frame} {meth : Method} {c : Code} {H : Heap} {locs : List Loc} {cells slots : Nat} {Q : State → Prop} {cc : ByteArray} {nL : Nat} {own : String} {G : jG} {H0 : Heap} {pc idx : Nat} {ls : Array Slot} {rest : List Value} {M : jM} {o a1 a2 : Int} {k : Int → Prop} (C : Cx G p s args m c cc nL own) (hl : ls.size = nL) (B : Hp G M H0 H locs) (q1 : Cond.methodLink own idx yX4_isListed ∈ tb) (hR : (rmm 0 0).frames + 1 ≤ R.frames ∧ 8 + (3 + 11) + (rmm 0 0).locals ≤ R.locals) (hcs : cells ≤ R.cells ∧ slots ≤ R.slots) (hW : (rest.map fun v => v.category).sum ≤ 8) (k_o : jK o = 5) (r_a1 : jR a1) (r_a2 : jR a2) (h : w_X4_isListed M o a1 a2 k) (hdg : decode cc pc = .ok (.invokevirtual idx, 3)) (kk : ∀ (r : Int), (r = 0 ∨ r = 1) → ∀ (H1 : Heap) (locs1 : List Loc), k r → Hp G M H0 H1 locs1 → W p l e R s m args below meth c H1 locs1 cells slots Q (F0 m (pc + 3) ls (.int (jI r) :: rest))) : W p l e R s m args below meth c H locs cells slots Q (F0 m pc ls (.int (jI a2) :: .int (jI a1) :: .ref (jD G o) :: rest)) :=
  jr_callZ B (jr_runV (o := o) (As := [.int (jI a1), .int (jI a2)]) (n := 2) C hl B (m_X4_isListed B.2.2 k_o r_a1 r_a2 h) (jE5 k_o) (by omega) rfl q1 q_251 q_252 q_253 q_2 ⟨by decide, by decide, by decide +kernel⟩ rfl ⟨rfl, rfl⟩ hR hcs rfl hW hdg) (fun r M' H1 locs1 hr hk B1 => by obtain ⟨rfl, hk⟩ := hk; exact kk r hr H1 locs1 hk B1)
def w_X4_setListed (M : jM) (o : Int) (a1 : Int) (a2 : Int) (a3 : Int) (k : jM → Prop) : Prop := (jB (jW ((jW (a1 * 100)) + a2)) 800 ∧ jL (jU M (o + 46) (jW ((jW (a1 * 100)) + a2)) a3) (fun M1 => (k M1)))
set_option maxHeartbeats 4000000 in
set_option maxRecDepth 100000 in
theorem m_X4_setListed {l : Launch} {G : jG} {M : jM} {o a1 a2 a3 : Int} {k : jM → Prop} (o_M : jOK M) (k_o : jK o = 5) (r_a1 : jR a1) (r_a2 : jR a2) (z_a3 : a3 = 0 ∨ a3 = 1) (h : w_X4_setListed M o a1 a2 a3 k) : Met l yX4_setListed (wsG yX4_setListed cX4_setListed 4 none) (rmm 0 0) (jPc G M [.ref (jD G o), .int (jI a1), .int (jI a2), .int (jI a3)]) (qV G k) 0 0 (gA G) := by
  refine jm_start RX4 rfl (by decide) (Nat.le_of_ble_eq_true rfl) o_M ?_
  intro p e s m args below meth c ls C hr hlocks hl B
  have hl : lv_has ls 4 [(0, .ref (jD G o)), (1, .int (jI a1)), (2, .int (jI a2)), (3, .int (jI a3))] := hl
  unfold w_X4_setListed at h
  refine lv_aload_n C.1 C.2.1 dX4_setListed_0 rfl (lv_at hl 0 rfl) ?_
  refine gf_X4_40 C B k_o dX4_setListed_1 ?_
  refine lv_iload_n C.1 C.2.1 dX4_setListed_4 rfl (lv_at hl 1 rfl) ?_
  refine jr_bipush C dX4_setListed_5 (by decide) ?_
  refine jr_imul C dX4_setListed_7 ?_
  refine lv_iload_n C.1 C.2.1 dX4_setListed_8 rfl (lv_at hl 2 rfl) ?_
  refine jr_iadd C dX4_setListed_9 ?_
  refine lv_iload_n C.1 C.2.1 dX4_setListed_10 rfl (lv_at hl 3 rfl) ?_
  refine jr_zast C B 800 (jk1 (ko_X4_6 k_o) rfl) (jk2 (ko_X4_6 k_o) rfl) (jW_R _) z_a3 h dX4_setListed_11 (fun M1 _ _ h B => ?_)
  have o_M1 := B.2.2
  exact jr_vret C B hr hlocks h dX4_setListed_12
theorem cl_X4_setListed {p : Program} {l : Launch} {e : Env} {R : Room} {s : State} {m : MethodId} {args : Array Value} {below : List Frame} {meth : Method} {c : Code} {H : Heap} {locs : List Loc} {cells slots : Nat} {Q : State → Prop} {cc : ByteArray} {nL : Nat} {own : String} {G : jG} {H0 : Heap} {pc idx : Nat} {ls : Array Slot} {rest : List Value} {M : jM} {o a1 a2 a3 : Int} {k : jM → Prop} (C : Cx G p s args m c cc nL own) (hl : ls.size = nL) (B : Hp G M H0 H locs) (q1 : Cond.methodLink own idx yX4_setListed ∈ tb) (hR : (rmm 0 0).frames + 1 ≤ R.frames ∧ 8 + (4 + 11) + (rmm 0 0).locals ≤ R.locals) (hcs : cells ≤ R.cells ∧ slots ≤ R.slots) (hW : (rest.map fun v => v.category).sum ≤ 8) (k_o : jK o = 5) (r_a1 : jR a1) (r_a2 : jR a2) (z_a3 : a3 = 0 ∨ a3 = 1) (h : w_X4_setListed M o a1 a2 a3 k) (hdg : decode cc pc = .ok (.invokevirtual idx, 3)) (kk : ∀ (M' : jM) (H1 : Heap) (locs1 : List Loc), k M' → Hp G M' H0 H1 locs1 → W p l e R s m args below meth c H1 locs1 cells slots Q (F0 m (pc + 3) ls rest)) : W p l e R s m args below meth c H locs cells slots Q (F0 m pc ls (.int (jI a3) :: .int (jI a2) :: .int (jI a1) :: .ref (jD G o) :: rest)) :=
  jr_callV B (jr_runV (o := o) (As := [.int (jI a1), .int (jI a2), .int (jI a3)]) (n := 3) C hl B (m_X4_setListed B.2.2 k_o r_a1 r_a2 z_a3 h) (jE5 k_o) (by omega) rfl q1 q_699 q_700 q_701 q_2 ⟨by decide, by decide, by decide +kernel⟩ rfl ⟨rfl, rfl⟩ hR hcs rfl hW hdg) (fun M' H1 locs1 hk B1 => kk M' H1 locs1 hk B1)
def lp_X4_emptyList_2 (o : Int) (a1 : Int) (kx2 : jM → Prop) : Nat → Int → jM → Prop
  | 0, _, _ => False
  | n + 1, x1, M2 => (if x1 < 100 then (w_X4_setListed M2 o a1 x1 0 (fun M4 => (jL (jW (x1 + 1)) (fun x5 => (lp_X4_emptyList_2 o a1 kx2 n x5 M4))))) else (kx2 M2))
def w_X4_emptyList (N : Nat) (M : jM) (o : Int) (a1 : Int) (k : jM → Prop) : Prop := (lp_X4_emptyList_2 o a1 (fun (M3 : jM) => (k M3)) N 0 M)
set_option maxHeartbeats 4000000 in
set_option maxRecDepth 100000 in
theorem m_X4_emptyList {l : Launch} {G : jG} {N : Nat} {M : jM} {o a1 : Int} {k : jM → Prop} (o_M : jOK M) (k_o : jK o = 5) (r_a1 : jR a1) (h : w_X4_emptyList N M o a1 k) : Met l yX4_emptyList (wsG yX4_emptyList cX4_emptyList 3 none) (rmm 1 23) (jPc G M [.ref (jD G o), .int (jI a1)]) (qV G k) 0 0 (gA G) := by
  refine jm_start RX4 rfl (by decide) (Nat.le_of_ble_eq_true rfl) o_M ?_
  intro p e s m args below meth c ls C hr hlocks hl B
  have hl : lv_has ls 3 [(0, .ref (jD G o)), (1, .int (jI a1))] := hl
  unfold w_X4_emptyList at h
  refine jr_iconst C dX4_emptyList_0 ?_
  refine lv_istore_n (lv' := [(2, .int (jI 0)), (0, .ref (jD G o)), (1, .int (jI a1))]) C.1 C.2.1 dX4_emptyList_1 rfl hl (by decide) rfl (fun ls hl => ?_)
  obtain ⟨kx2, hkx2, h⟩ : ∃ kx2 : jM → Prop, (∀ (M3 : jM) (H : Heap) (locs : List Loc) (ls : Array Slot), kx2 M3 → Hp G M3 s.heap H locs → lv_has ls 3 [] → W p l e (rmm 1 23) s m args below meth c H locs 0 0 (MQ below (qV G k) args s 0 0 (gA G)) (F0 m 21 ls [])) ∧ lp_X4_emptyList_2 o a1 kx2 N 0 M := by
    refine ⟨_, ?_, h⟩
    intro M3 H locs ls h  B hl
    have o_M3 := B.2.2
    exact jr_vret C B hr hlocks h dX4_emptyList_21
  have hL2 : ∀ (n : Nat) (x1 : Int) (M2 : jM) (H : Heap) (locs : List Loc) (ls : Array Slot), lp_X4_emptyList_2 o a1 kx2 n x1 M2 → jR x1 → Hp G M2 s.heap H locs → lv_has ls 3 [(2, .int (jI x1)), (0, .ref (jD G o)), (1, .int (jI a1))] → W p l e (rmm 1 23) s m args below meth c H locs 0 0 (MQ below (qV G k) args s 0 0 (gA G)) (F0 m 2 ls []) := by
    intro n
    induction n with
    | zero => intro x1 M2 H locs ls h; exact (show False from h).elim
    | succ n ih2 =>
      intro x1 M2 H locs ls h r_x1 B hl
      have o_M2 := B.2.2
      rw [lp_X4_emptyList_2] at h
      refine lv_iload_n C.1 C.2.1 dX4_emptyList_2 rfl (lv_at hl 0 rfl) ?_
      refine jr_bipush C dX4_emptyList_3 (by decide) ?_
      refine jr_icmp_ge (tgt := 21) C r_x1 (jkc rfl) h dX4_emptyList_5 (by decide) (fun hc5 h => ?_) (fun hc5 h => ?_)
      · refine lv_aload_n C.1 C.2.1 dX4_emptyList_8 rfl (lv_at hl 1 rfl) ?_
        refine lv_iload_n C.1 C.2.1 dX4_emptyList_9 rfl (lv_at hl 2 rfl) ?_
        refine lv_iload_n C.1 C.2.1 dX4_emptyList_10 rfl (lv_at hl 0 rfl) ?_
        refine jr_iconst C dX4_emptyList_11 ?_
        refine cl_X4_setListed C hl.1 B q_698 ⟨Nat.le_of_ble_eq_true rfl, Nat.le_of_ble_eq_true rfl⟩ ⟨Nat.zero_le _, Nat.zero_le _⟩ (Nat.le_of_ble_eq_true rfl) k_o r_a1 r_x1 (Or.inl rfl) h dX4_emptyList_12 (fun M4 _ _ h B => ?_)
        have o_M4 := B.2.2
        refine jr_iinc (k := 0) (lv' := fun x5 => [(2, .int (jI x5)), (0, .ref (jD G o)), (1, .int (jI a1))]) C h hl rfl (by decide) (fun _ => rfl) dX4_emptyList_15 (fun x5 h r_x5 ls hl => ?_)
        refine lv_goto (tgt := 2) C.1 C.2.1 dX4_emptyList_18 (by decide) ?_
        exact ih2 _ _ _ _ _ h r_x5 B (lv_sub hl [0, 1, 2] rfl)
      · exact hkx2 _ _ _ _ h  B (lv_sub hl [] rfl)
  exact hL2 N _ _ _ _ _ h (jkc rfl) B (lv_sub hl [0, 1, 2] rfl)
theorem cl_X4_emptyList {p : Program} {l : Launch} {e : Env} {R : Room} {s : State} {m : MethodId} {args : Array Value} {below : List Frame} {meth : Method} {c : Code} {H : Heap} {locs : List Loc} {cells slots : Nat} {Q : State → Prop} {cc : ByteArray} {nL : Nat} {own : String} {G : jG} {H0 : Heap} {pc idx : Nat} {ls : Array Slot} {rest : List Value} {N : Nat} {M : jM} {o a1 : Int} {k : jM → Prop} (C : Cx G p s args m c cc nL own) (hl : ls.size = nL) (B : Hp G M H0 H locs) (q1 : Cond.methodLink own idx yX4_emptyList ∈ tb) (hR : (rmm 1 23).frames + 1 ≤ R.frames ∧ 8 + (3 + 11) + (rmm 1 23).locals ≤ R.locals) (hcs : cells ≤ R.cells ∧ slots ≤ R.slots) (hW : (rest.map fun v => v.category).sum ≤ 8) (k_o : jK o = 5) (r_a1 : jR a1) (h : w_X4_emptyList N M o a1 k) (hdg : decode cc pc = .ok (.invokevirtual idx, 3)) (kk : ∀ (M' : jM) (H1 : Heap) (locs1 : List Loc), k M' → Hp G M' H0 H1 locs1 → W p l e R s m args below meth c H1 locs1 cells slots Q (F0 m (pc + 3) ls rest)) : W p l e R s m args below meth c H locs cells slots Q (F0 m pc ls (.int (jI a1) :: .ref (jD G o) :: rest)) :=
  jr_callV B (jr_runV (o := o) (As := [.int (jI a1)]) (n := 1) C hl B (m_X4_emptyList B.2.2 k_o r_a1 h) (jE5 k_o) (by omega) rfl q1 q_695 q_696 q_697 q_2 ⟨by decide, by decide, by decide +kernel⟩ rfl ⟨rfl, rfl⟩ hR hcs rfl hW hdg) (fun M' H1 locs1 hk B1 => kk M' H1 locs1 hk B1)
def lp_X4_listedCount_4 (o : Int) (a1 : Int) (M : jM) (kx4 : Int → Prop) : Nat → Int → Int → Prop
  | 0, _, _ => False
  | n + 1, x1, x2 => (if x2 < 100 then (w_X4_isListed M o a1 x2 (fun x4 => (if x4 = 0 then (jL (jW (x2 + 1)) (fun x5 => (lp_X4_listedCount_4 o a1 M kx4 n x1 x5))) else (jL (jW (x1 + 1)) (fun x6 => (jL (jW (x2 + 1)) (fun x7 => (lp_X4_listedCount_4 o a1 M kx4 n x6 x7)))))))) else (kx4 x1))
def w_X4_listedCount (N : Nat) (M : jM) (o : Int) (a1 : Int) (k : Int → Prop) : Prop := (lp_X4_listedCount_4 o a1 M (fun (x3 : Int) => (k x3)) N 0 0)
set_option maxHeartbeats 4000000 in
set_option maxRecDepth 100000 in
theorem m_X4_listedCount {l : Launch} {G : jG} {N : Nat} {M : jM} {o a1 : Int} {k : Int → Prop} (o_M : jOK M) (k_o : jK o = 5) (r_a1 : jR a1) (h : w_X4_listedCount N M o a1 k) : Met l yX4_listedCount (wsG yX4_listedCount cX4_listedCount 4 (some .int)) (rmm 1 22) (jPc G M [.ref (jD G o), .int (jI a1)]) (qI G (fun r M' => M' = M ∧ k r)) 0 0 (gA G) := by
  refine jm_start RX4 rfl (by decide) (Nat.le_of_ble_eq_true rfl) o_M ?_
  intro p e s m args below meth c ls C hr hlocks hl B
  have hl : lv_has ls 4 [(0, .ref (jD G o)), (1, .int (jI a1))] := hl
  unfold w_X4_listedCount at h
  refine jr_iconst C dX4_listedCount_0 ?_
  refine lv_istore_n (lv' := [(2, .int (jI 0)), (0, .ref (jD G o)), (1, .int (jI a1))]) C.1 C.2.1 dX4_listedCount_1 rfl hl (by decide) rfl (fun ls hl => ?_)
  refine jr_iconst C dX4_listedCount_2 ?_
  refine lv_istore_n (lv' := [(3, .int (jI 0)), (2, .int (jI 0)), (0, .ref (jD G o)), (1, .int (jI a1))]) C.1 C.2.1 dX4_listedCount_3 rfl hl (by decide) rfl (fun ls hl => ?_)
  obtain ⟨kx4, hkx4, h⟩ : ∃ kx4 : Int → Prop, (∀ (x3 : Int) (H : Heap) (locs : List Loc) (ls : Array Slot), kx4 x3 → jR x3 → Hp G M s.heap H locs → lv_has ls 4 [(2, .int (jI x3))] → W p l e (rmm 1 22) s m args below meth c H locs 0 0 (MQ below (qI G (fun r M' => M' = M ∧ k r)) args s 0 0 (gA G)) (F0 m 28 ls [])) ∧ lp_X4_listedCount_4 o a1 M kx4 N 0 0 := by
    refine ⟨_, ?_, h⟩
    intro x3 H locs ls h r_x3 B hl
    refine lv_iload_n C.1 C.2.1 dX4_listedCount_28 rfl (lv_at hl 0 rfl) ?_
    exact jr_iret C B hr hlocks r_x3 ⟨rfl, h⟩ dX4_listedCount_29
  have hL4 : ∀ (n : Nat) (x1 : Int) (x2 : Int) (H : Heap) (locs : List Loc) (ls : Array Slot), lp_X4_listedCount_4 o a1 M kx4 n x1 x2 → jR x1 → jR x2 → Hp G M s.heap H locs → lv_has ls 4 [(2, .int (jI x1)), (3, .int (jI x2)), (0, .ref (jD G o)), (1, .int (jI a1))] → W p l e (rmm 1 22) s m args below meth c H locs 0 0 (MQ below (qI G (fun r M' => M' = M ∧ k r)) args s 0 0 (gA G)) (F0 m 4 ls []) := by
    intro n
    induction n with
    | zero => intro x1 x2 H locs ls h; exact (show False from h).elim
    | succ n ih4 =>
      intro x1 x2 H locs ls h r_x1 r_x2 B hl
      rw [lp_X4_listedCount_4] at h
      refine lv_iload_n C.1 C.2.1 dX4_listedCount_4 rfl (lv_at hl 1 rfl) ?_
      refine jr_bipush C dX4_listedCount_5 (by decide) ?_
      refine jr_icmp_ge (tgt := 28) C r_x2 (jkc rfl) h dX4_listedCount_7 (by decide) (fun hc7 h => ?_) (fun hc7 h => ?_)
      · refine lv_aload_n C.1 C.2.1 dX4_listedCount_10 rfl (lv_at hl 2 rfl) ?_
        refine lv_iload_n C.1 C.2.1 dX4_listedCount_11 rfl (lv_at hl 3 rfl) ?_
        refine lv_iload_n C.1 C.2.1 dX4_listedCount_12 rfl (lv_at hl 1 rfl) ?_
        refine cl_X4_isListed C hl.1 B q_250 ⟨Nat.le_of_ble_eq_true rfl, Nat.le_of_ble_eq_true rfl⟩ ⟨Nat.zero_le _, Nat.zero_le _⟩ (Nat.le_of_ble_eq_true rfl) k_o r_a1 r_x2 h dX4_listedCount_13 (fun x4 z_x4 _ _ h B => ?_)
        refine jr_if_eq (tgt := 22) C (zR z_x4) h dX4_listedCount_16 (by decide) (fun hc16 h => ?_) (fun hc16 h => ?_)
        · refine jr_iinc (k := 1) (lv' := fun x5 => [(3, .int (jI x5)), (2, .int (jI x1)), (0, .ref (jD G o)), (1, .int (jI a1))]) C h hl rfl (by decide) (fun _ => rfl) dX4_listedCount_22 (fun x5 h r_x5 ls hl => ?_)
          refine lv_goto (tgt := 4) C.1 C.2.1 dX4_listedCount_25 (by decide) ?_
          exact ih4 _ _ _ _ _ h r_x1 r_x5 B (lv_sub hl [1, 0, 2, 3] rfl)
        · refine jr_iinc (k := 0) (lv' := fun x6 => [(2, .int (jI x6)), (3, .int (jI x2)), (0, .ref (jD G o)), (1, .int (jI a1))]) C h hl rfl (by decide) (fun _ => rfl) dX4_listedCount_19 (fun x6 h r_x6 ls hl => ?_)
          refine jr_iinc (k := 1) (lv' := fun x7 => [(3, .int (jI x7)), (2, .int (jI x6)), (0, .ref (jD G o)), (1, .int (jI a1))]) C h hl rfl (by decide) (fun _ => rfl) dX4_listedCount_22 (fun x7 h r_x7 ls hl => ?_)
          refine lv_goto (tgt := 4) C.1 C.2.1 dX4_listedCount_25 (by decide) ?_
          exact ih4 _ _ _ _ _ h r_x6 r_x7 B (lv_sub hl [1, 0, 2, 3] rfl)
      · exact hkx4 _ _ _ _ h r_x1 B (lv_sub hl [0] rfl)
  exact hL4 N _ _ _ _ _ h (jkc rfl) (jkc rfl) B (lv_sub hl [1, 0, 2, 3] rfl)
theorem cl_X4_listedCount {p : Program} {l : Launch} {e : Env} {R : Room} {s : State} {m : MethodId} {args : Array Value} {below : List Frame} {meth : Method} {c : Code} {H : Heap} {locs : List Loc} {cells slots : Nat} {Q : State → Prop} {cc : ByteArray} {nL : Nat} {own : String} {G : jG} {H0 : Heap} {pc idx : Nat} {ls : Array Slot} {rest : List Value} {N : Nat} {M : jM} {o a1 : Int} {k : Int → Prop} (C : Cx G p s args m c cc nL own) (hl : ls.size = nL) (B : Hp G M H0 H locs) (q1 : Cond.methodLink own idx yX4_listedCount ∈ tb) (hR : (rmm 1 22).frames + 1 ≤ R.frames ∧ 8 + (4 + 11) + (rmm 1 22).locals ≤ R.locals) (hcs : cells ≤ R.cells ∧ slots ≤ R.slots) (hW : (rest.map fun v => v.category).sum ≤ 8) (k_o : jK o = 5) (r_a1 : jR a1) (h : w_X4_listedCount N M o a1 k) (hdg : decode cc pc = .ok (.invokevirtual idx, 3)) (kk : ∀ (r : Int), jR r → ∀ (H1 : Heap) (locs1 : List Loc), k r → Hp G M H0 H1 locs1 → W p l e R s m args below meth c H1 locs1 cells slots Q (F0 m (pc + 3) ls (.int (jI r) :: rest))) : W p l e R s m args below meth c H locs cells slots Q (F0 m pc ls (.int (jI a1) :: .ref (jD G o) :: rest)) :=
  jr_callI B (jr_runV (o := o) (As := [.int (jI a1)]) (n := 1) C hl B (m_X4_listedCount B.2.2 k_o r_a1 h) (jE5 k_o) (by omega) rfl q1 q_247 q_248 q_249 q_2 ⟨by decide, by decide, by decide +kernel⟩ rfl ⟨rfl, rfl⟩ hR hcs rfl hW hdg) (fun r M' H1 locs1 hr hk B1 => by obtain ⟨rfl, hk⟩ := hk; exact kk r hr H1 locs1 hk B1)
def w_X5_isNumberOver (M : jM) (o : Int) (k : Int → Prop) : Prop := (if (M o 1) = 0 then (k 1) else (if (M o 1) = 3 then (k 1) else (k 0)))
set_option maxHeartbeats 4000000 in
set_option maxRecDepth 100000 in
theorem m_X5_isNumberOver {l : Launch} {G : jG} {M : jM} {o : Int} {k : Int → Prop} (o_M : jOK M) (k_o : jK o = 6) (h : w_X5_isNumberOver M o k) : Met l yX5_isNumberOver (wsG yX5_isNumberOver cX5_isNumberOver 1 (some .boolean)) (rmm 0 0) (jPc G M [.ref (jD G o)]) (qZ G (fun r M' => M' = M ∧ k r)) 0 0 (gA G) := by
  refine jm_start RX5 rfl (by decide) (Nat.le_of_ble_eq_true rfl) o_M ?_
  intro p e s m args below meth c ls C hr hlocks hl B
  have hl : lv_has ls 1 [(0, .ref (jD G o))] := hl
  unfold w_X5_isNumberOver at h
  refine lv_aload_n C.1 C.2.1 dX5_isNumberOver_0 rfl (lv_at hl 0 rfl) ?_
  refine gf_X5_18 C B k_o dX5_isNumberOver_1 ?_
  refine jr_if_eq (tgt := 15) C (o_M o 1).1 h dX5_isNumberOver_4 (by decide) (fun hc4 h => ?_) (fun hc4 h => ?_)
  · refine jr_iconst C dX5_isNumberOver_15 ?_
    refine lv_goto (tgt := 20) C.1 C.2.1 dX5_isNumberOver_16 (by decide) ?_
    exact jr_zret C B hr hlocks (Or.inr rfl) ⟨rfl, h⟩ dX5_isNumberOver_20
  · refine lv_aload_n C.1 C.2.1 dX5_isNumberOver_7 rfl (lv_at hl 0 rfl) ?_
    refine gf_X5_18 C B k_o dX5_isNumberOver_8 ?_
    refine jr_iconst C dX5_isNumberOver_11 ?_
    refine jr_icmp_ne (tgt := 19) C (o_M o 1).1 (jkc rfl) h dX5_isNumberOver_12 (by decide) (fun hc12 h => ?_) (fun hc12 h => ?_)
    · refine jr_iconst C dX5_isNumberOver_15 ?_
      refine lv_goto (tgt := 20) C.1 C.2.1 dX5_isNumberOver_16 (by decide) ?_
      exact jr_zret C B hr hlocks (Or.inr rfl) ⟨rfl, h⟩ dX5_isNumberOver_20
    · refine jr_iconst C dX5_isNumberOver_19 ?_
      exact jr_zret C B hr hlocks (Or.inl rfl) ⟨rfl, h⟩ dX5_isNumberOver_20
theorem cl_X5_isNumberOver {p : Program} {l : Launch} {e : Env} {R : Room} {s : State} {m : MethodId} {args : Array Value} {below : List Frame} {meth : Method} {c : Code} {H : Heap} {locs : List Loc} {cells slots : Nat} {Q : State → Prop} {cc : ByteArray} {nL : Nat} {own : String} {G : jG} {H0 : Heap} {pc idx : Nat} {ls : Array Slot} {rest : List Value} {M : jM} {o : Int} {k : Int → Prop} (C : Cx G p s args m c cc nL own) (hl : ls.size = nL) (B : Hp G M H0 H locs) (q1 : Cond.methodLink own idx yX5_isNumberOver ∈ tb) (hR : (rmm 0 0).frames + 1 ≤ R.frames ∧ 8 + (1 + 11) + (rmm 0 0).locals ≤ R.locals) (hcs : cells ≤ R.cells ∧ slots ≤ R.slots) (hW : (rest.map fun v => v.category).sum ≤ 8) (k_o : jK o = 6) (h : w_X5_isNumberOver M o k) (hdg : decode cc pc = .ok (.invokevirtual idx, 3)) (kk : ∀ (r : Int), (r = 0 ∨ r = 1) → ∀ (H1 : Heap) (locs1 : List Loc), k r → Hp G M H0 H1 locs1 → W p l e R s m args below meth c H1 locs1 cells slots Q (F0 m (pc + 3) ls (.int (jI r) :: rest))) : W p l e R s m args below meth c H locs cells slots Q (F0 m pc ls (.ref (jD G o) :: rest)) :=
  jr_callZ B (jr_runV (o := o) (As := []) (n := 0) C hl B (m_X5_isNumberOver B.2.2 k_o h) (jE6 k_o) (by omega) rfl q1 q_615 qs_19 q_616 q_5 ⟨by decide, by decide, by decide +kernel⟩ rfl ⟨rfl, rfl⟩ hR hcs rfl hW hdg) (fun r M' H1 locs1 hr hk B1 => by obtain ⟨rfl, hk⟩ := hk; exact kk r hr H1 locs1 hk B1)
def w_X5_isComplete (M : jM) (o : Int) (k : Int → Prop) : Prop := (if (M o 2) = 3 then (w_X5_isNumberOver M o (fun x1 => (if x1 = 0 then (k 0) else (k 1)))) else (k 0))
set_option maxHeartbeats 4000000 in
set_option maxRecDepth 100000 in
theorem m_X5_isComplete {l : Launch} {G : jG} {M : jM} {o : Int} {k : Int → Prop} (o_M : jOK M) (k_o : jK o = 6) (h : w_X5_isComplete M o k) : Met l yX5_isComplete (wsG yX5_isComplete cX5_isComplete 1 (some .boolean)) (rmm 1 20) (jPc G M [.ref (jD G o)]) (qZ G (fun r M' => M' = M ∧ k r)) 0 0 (gA G) := by
  refine jm_start RX5 rfl (by decide) (Nat.le_of_ble_eq_true rfl) o_M ?_
  intro p e s m args below meth c ls C hr hlocks hl B
  have hl : lv_has ls 1 [(0, .ref (jD G o))] := hl
  unfold w_X5_isComplete at h
  refine lv_aload_n C.1 C.2.1 dX5_isComplete_0 rfl (lv_at hl 0 rfl) ?_
  refine gf_X5_22 C B k_o dX5_isComplete_1 ?_
  refine jr_iconst C dX5_isComplete_4 ?_
  refine jr_icmp_ne (tgt := 19) C (o_M o 2).1 (jkc rfl) h dX5_isComplete_5 (by decide) (fun hc5 h => ?_) (fun hc5 h => ?_)
  · refine lv_aload_n C.1 C.2.1 dX5_isComplete_8 rfl (lv_at hl 0 rfl) ?_
    refine cl_X5_isNumberOver C hl.1 B q_613 ⟨Nat.le_of_ble_eq_true rfl, Nat.le_of_ble_eq_true rfl⟩ ⟨Nat.zero_le _, Nat.zero_le _⟩ (Nat.le_of_ble_eq_true rfl) k_o h dX5_isComplete_9 (fun x1 z_x1 _ _ h B => ?_)
    refine jr_if_eq (tgt := 19) C (zR z_x1) h dX5_isComplete_12 (by decide) (fun hc12 h => ?_) (fun hc12 h => ?_)
    · refine jr_iconst C dX5_isComplete_19 ?_
      exact jr_zret C B hr hlocks (Or.inl rfl) ⟨rfl, h⟩ dX5_isComplete_20
    · refine jr_iconst C dX5_isComplete_15 ?_
      refine lv_goto (tgt := 20) C.1 C.2.1 dX5_isComplete_16 (by decide) ?_
      exact jr_zret C B hr hlocks (Or.inr rfl) ⟨rfl, h⟩ dX5_isComplete_20
  · refine jr_iconst C dX5_isComplete_19 ?_
    exact jr_zret C B hr hlocks (Or.inl rfl) ⟨rfl, h⟩ dX5_isComplete_20
theorem cl_X5_isComplete {p : Program} {l : Launch} {e : Env} {R : Room} {s : State} {m : MethodId} {args : Array Value} {below : List Frame} {meth : Method} {c : Code} {H : Heap} {locs : List Loc} {cells slots : Nat} {Q : State → Prop} {cc : ByteArray} {nL : Nat} {own : String} {G : jG} {H0 : Heap} {pc idx : Nat} {ls : Array Slot} {rest : List Value} {M : jM} {o : Int} {k : Int → Prop} (C : Cx G p s args m c cc nL own) (hl : ls.size = nL) (B : Hp G M H0 H locs) (q1 : Cond.methodLink own idx yX5_isComplete ∈ tb) (hR : (rmm 1 20).frames + 1 ≤ R.frames ∧ 8 + (1 + 11) + (rmm 1 20).locals ≤ R.locals) (hcs : cells ≤ R.cells ∧ slots ≤ R.slots) (hW : (rest.map fun v => v.category).sum ≤ 8) (k_o : jK o = 6) (h : w_X5_isComplete M o k) (hdg : decode cc pc = .ok (.invokevirtual idx, 3)) (kk : ∀ (r : Int), (r = 0 ∨ r = 1) → ∀ (H1 : Heap) (locs1 : List Loc), k r → Hp G M H0 H1 locs1 → W p l e R s m args below meth c H1 locs1 cells slots Q (F0 m (pc + 3) ls (.int (jI r) :: rest))) : W p l e R s m args below meth c H locs cells slots Q (F0 m pc ls (.ref (jD G o) :: rest)) :=
  jr_callZ B (jr_runV (o := o) (As := []) (n := 0) C hl B (m_X5_isComplete B.2.2 k_o h) (jE6 k_o) (by omega) rfl q1 q_619 qs_20 q_620 q_5 ⟨by decide, by decide, by decide +kernel⟩ rfl ⟨rfl, rfl⟩ hR hcs rfl hW hdg) (fun r M' H1 locs1 hr hk B1 => by obtain ⟨rfl, hk⟩ := hk; exact kk r hr H1 locs1 hk B1)
def w_X5_lastValue (M : jM) (o : Int) (k : Int → Prop) : Prop := (w_X1_valueCount M (o + 1) (M o 2) (fun x1 => (k (jW (x1 - 1)))))
set_option maxHeartbeats 4000000 in
set_option maxRecDepth 100000 in
theorem m_X5_lastValue {l : Launch} {G : jG} {M : jM} {o : Int} {k : Int → Prop} (o_M : jOK M) (k_o : jK o = 6) (h : w_X5_lastValue M o k) : Met l yX5_lastValue (wsG yX5_lastValue cX5_lastValue 1 (some .int)) (rmm 1 21) (jPc G M [.ref (jD G o)]) (qI G (fun r M' => M' = M ∧ k r)) 0 0 (gA G) := by
  refine jm_start RX5 rfl (by decide) (Nat.le_of_ble_eq_true rfl) o_M ?_
  intro p e s m args below meth c ls C hr hlocks hl B
  have hl : lv_has ls 1 [(0, .ref (jD G o))] := hl
  unfold w_X5_lastValue at h
  refine lv_aload_n C.1 C.2.1 dX5_lastValue_0 rfl (lv_at hl 0 rfl) ?_
  refine gf_X5_12 C B k_o dX5_lastValue_1 ?_
  refine lv_aload_n C.1 C.2.1 dX5_lastValue_4 rfl (lv_at hl 0 rfl) ?_
  refine gf_X5_22 C B k_o dX5_lastValue_5 ?_
  refine cl_X1_valueCount C hl.1 B q_589 ⟨Nat.le_of_ble_eq_true rfl, Nat.le_of_ble_eq_true rfl⟩ ⟨Nat.zero_le _, Nat.zero_le _⟩ (Nat.le_of_ble_eq_true rfl) (ko_X5_0 k_o) (o_M o 2).1 h dX5_lastValue_8 (fun x1 r_x1 _ _ h B => ?_)
  refine jr_iconst C dX5_lastValue_11 ?_
  refine jr_isub C dX5_lastValue_12 ?_
  exact jr_iret C B hr hlocks (jW_R _) ⟨rfl, h⟩ dX5_lastValue_13
theorem cl_X5_lastValue {p : Program} {l : Launch} {e : Env} {R : Room} {s : State} {m : MethodId} {args : Array Value} {below : List Frame} {meth : Method} {c : Code} {H : Heap} {locs : List Loc} {cells slots : Nat} {Q : State → Prop} {cc : ByteArray} {nL : Nat} {own : String} {G : jG} {H0 : Heap} {pc idx : Nat} {ls : Array Slot} {rest : List Value} {M : jM} {o : Int} {k : Int → Prop} (C : Cx G p s args m c cc nL own) (hl : ls.size = nL) (B : Hp G M H0 H locs) (q1 : Cond.methodLink own idx yX5_lastValue ∈ tb) (hR : (rmm 1 21).frames + 1 ≤ R.frames ∧ 8 + (1 + 11) + (rmm 1 21).locals ≤ R.locals) (hcs : cells ≤ R.cells ∧ slots ≤ R.slots) (hW : (rest.map fun v => v.category).sum ≤ 8) (k_o : jK o = 6) (h : w_X5_lastValue M o k) (hdg : decode cc pc = .ok (.invokevirtual idx, 3)) (kk : ∀ (r : Int), jR r → ∀ (H1 : Heap) (locs1 : List Loc), k r → Hp G M H0 H1 locs1 → W p l e R s m args below meth c H1 locs1 cells slots Q (F0 m (pc + 3) ls (.int (jI r) :: rest))) : W p l e R s m args below meth c H locs cells slots Q (F0 m pc ls (.ref (jD G o) :: rest)) :=
  jr_callI B (jr_runV (o := o) (As := []) (n := 0) C hl B (m_X5_lastValue B.2.2 k_o h) (jE6 k_o) (by omega) rfl q1 q_587 qs_13 q_588 q_5 ⟨by decide, by decide, by decide +kernel⟩ rfl ⟨rfl, rfl⟩ hR hcs rfl hW hdg) (fun r M' H1 locs1 hr hk B1 => by obtain ⟨rfl, hk⟩ := hk; exact kk r hr H1 locs1 hk B1)
def w_X5_takesBracket (N : Nat) (M : jM) (o : Int) (k : Int → jM → Prop) : Prop := (if (M o 1) = 3 then (w_X5_lastValue M o (fun x1 => (if x1 < 4 then (w_X5_lastValue M o (fun x2 => (w_X1_addValue N M (o + 1) (M o 2) (jW (x2 + 1)) 0 (fun M3 => (jL (jU M3 o 1 1) (fun M4 => (k 1 M4))))))) else (k 0 M)))) else (k 0 M))
set_option maxHeartbeats 4000000 in
set_option maxRecDepth 100000 in
theorem m_X5_takesBracket {l : Launch} {G : jG} {N : Nat} {M : jM} {o : Int} {k : Int → jM → Prop} (o_M : jOK M) (k_o : jK o = 6) (h : w_X5_takesBracket N M o k) : Met l yX5_takesBracket (wsG yX5_takesBracket cX5_takesBracket 1 (some .boolean)) (rmm 3 89) (jPc G M [.ref (jD G o)]) (qZ G k) 0 0 (gA G) := by
  refine jm_start RX5 rfl (by decide) (Nat.le_of_ble_eq_true rfl) o_M ?_
  intro p e s m args below meth c ls C hr hlocks hl B
  have hl : lv_has ls 1 [(0, .ref (jD G o))] := hl
  unfold w_X5_takesBracket at h
  refine lv_aload_n C.1 C.2.1 dX5_takesBracket_0 rfl (lv_at hl 0 rfl) ?_
  refine gf_X5_18 C B k_o dX5_takesBracket_1 ?_
  refine jr_iconst C dX5_takesBracket_4 ?_
  refine jr_icmp_ne (tgt := 16) C (o_M o 1).1 (jkc rfl) h dX5_takesBracket_5 (by decide) (fun hc5 h => ?_) (fun hc5 h => ?_)
  · refine lv_aload_n C.1 C.2.1 dX5_takesBracket_8 rfl (lv_at hl 0 rfl) ?_
    refine cl_X5_lastValue C hl.1 B q_585 ⟨Nat.le_of_ble_eq_true rfl, Nat.le_of_ble_eq_true rfl⟩ ⟨Nat.zero_le _, Nat.zero_le _⟩ (Nat.le_of_ble_eq_true rfl) k_o h dX5_takesBracket_9 (fun x1 r_x1 _ _ h B => ?_)
    refine jr_iconst C dX5_takesBracket_12 ?_
    refine jr_icmp_lt (tgt := 18) C r_x1 (jkc rfl) h dX5_takesBracket_13 (by decide) (fun hc13 h => ?_) (fun hc13 h => ?_)
    · refine lv_aload_n C.1 C.2.1 dX5_takesBracket_18 rfl (lv_at hl 0 rfl) ?_
      refine gf_X5_12 C B k_o dX5_takesBracket_19 ?_
      refine lv_aload_n C.1 C.2.1 dX5_takesBracket_22 rfl (lv_at hl 0 rfl) ?_
      refine gf_X5_22 C B k_o dX5_takesBracket_23 ?_
      refine lv_aload_n C.1 C.2.1 dX5_takesBracket_26 rfl (lv_at hl 0 rfl) ?_
      refine cl_X5_lastValue C hl.1 B q_585 ⟨Nat.le_of_ble_eq_true rfl, Nat.le_of_ble_eq_true rfl⟩ ⟨Nat.zero_le _, Nat.zero_le _⟩ (Nat.le_of_ble_eq_true rfl) k_o h dX5_takesBracket_27 (fun x2 r_x2 _ _ h B => ?_)
      refine jr_iconst C dX5_takesBracket_30 ?_
      refine jr_iadd C dX5_takesBracket_31 ?_
      refine jr_iconst C dX5_takesBracket_32 ?_
      refine cl_X1_addValue C hl.1 B q_584 ⟨Nat.le_of_ble_eq_true rfl, Nat.le_of_ble_eq_true rfl⟩ ⟨Nat.zero_le _, Nat.zero_le _⟩ (Nat.le_of_ble_eq_true rfl) (ko_X5_0 k_o) (o_M o 2).1 (jW_R _) (jkc rfl) h dX5_takesBracket_33 (fun M3 _ _ h B => ?_)
      have o_M3 := B.2.2
      refine lv_aload_n C.1 C.2.1 dX5_takesBracket_36 rfl (lv_at hl 0 rfl) ?_
      refine jr_iconst C dX5_takesBracket_37 ?_
      refine pf_X5_18 C B k_o (jkc rfl) h dX5_takesBracket_38 (fun M4 _ _ h B => ?_)
      have o_M4 := B.2.2
      refine jr_iconst C dX5_takesBracket_41 ?_
      exact jr_zret C B hr hlocks (Or.inr rfl) h dX5_takesBracket_42
    · refine jr_iconst C dX5_takesBracket_16 ?_
      exact jr_zret C B hr hlocks (Or.inl rfl) h dX5_takesBracket_17
  · refine jr_iconst C dX5_takesBracket_16 ?_
    exact jr_zret C B hr hlocks (Or.inl rfl) h dX5_takesBracket_17
theorem cl_X5_takesBracket {p : Program} {l : Launch} {e : Env} {R : Room} {s : State} {m : MethodId} {args : Array Value} {below : List Frame} {meth : Method} {c : Code} {H : Heap} {locs : List Loc} {cells slots : Nat} {Q : State → Prop} {cc : ByteArray} {nL : Nat} {own : String} {G : jG} {H0 : Heap} {pc idx : Nat} {ls : Array Slot} {rest : List Value} {N : Nat} {M : jM} {o : Int} {k : Int → jM → Prop} (C : Cx G p s args m c cc nL own) (hl : ls.size = nL) (B : Hp G M H0 H locs) (q1 : Cond.methodLink own idx yX5_takesBracket ∈ tb) (hR : (rmm 3 89).frames + 1 ≤ R.frames ∧ 8 + (1 + 11) + (rmm 3 89).locals ≤ R.locals) (hcs : cells ≤ R.cells ∧ slots ≤ R.slots) (hW : (rest.map fun v => v.category).sum ≤ 8) (k_o : jK o = 6) (h : w_X5_takesBracket N M o k) (hdg : decode cc pc = .ok (.invokevirtual idx, 3)) (kk : ∀ (r : Int) (M' : jM), (r = 0 ∨ r = 1) → ∀ (H1 : Heap) (locs1 : List Loc), k r M' → Hp G M' H0 H1 locs1 → W p l e R s m args below meth c H1 locs1 cells slots Q (F0 m (pc + 3) ls (.int (jI r) :: rest))) : W p l e R s m args below meth c H locs cells slots Q (F0 m pc ls (.ref (jD G o) :: rest)) :=
  jr_callZ B (jr_runV (o := o) (As := []) (n := 0) C hl B (m_X5_takesBracket B.2.2 k_o h) (jE6 k_o) (by omega) rfl q1 q_607 qs_17 q_608 q_5 ⟨by decide, by decide, by decide +kernel⟩ rfl ⟨rfl, rfl⟩ hR hcs rfl hW hdg) (fun r M' H1 locs1 hr hk B1 => kk r M' hr H1 locs1 hk B1)
def w_X5_takesCaret (M : jM) (o : Int) (k : Int → jM → Prop) : Prop := (w_X5_isNumberOver M o (fun x1 => (if x1 = 0 then (k 0 M) else (if (M o 2) < 3 then (jL (jU M o 2 (jW ((M o 2) + 1))) (fun M2 => (jL (jU M2 o 1 0) (fun M3 => (k 1 M3))))) else (k 0 M)))))
set_option maxHeartbeats 4000000 in
set_option maxRecDepth 100000 in
theorem m_X5_takesCaret {l : Launch} {G : jG} {M : jM} {o : Int} {k : Int → jM → Prop} (o_M : jOK M) (k_o : jK o = 6) (h : w_X5_takesCaret M o k) : Met l yX5_takesCaret (wsG yX5_takesCaret cX5_takesCaret 1 (some .boolean)) (rmm 1 20) (jPc G M [.ref (jD G o)]) (qZ G k) 0 0 (gA G) := by
  refine jm_start RX5 rfl (by decide) (Nat.le_of_ble_eq_true rfl) o_M ?_
  intro p e s m args below meth c ls C hr hlocks hl B
  have hl : lv_has ls 1 [(0, .ref (jD G o))] := hl
  unfold w_X5_takesCaret at h
  refine lv_aload_n C.1 C.2.1 dX5_takesCaret_0 rfl (lv_at hl 0 rfl) ?_
  refine cl_X5_isNumberOver C hl.1 B q_613 ⟨Nat.le_of_ble_eq_true rfl, Nat.le_of_ble_eq_true rfl⟩ ⟨Nat.zero_le _, Nat.zero_le _⟩ (Nat.le_of_ble_eq_true rfl) k_o h dX5_takesCaret_1 (fun x1 z_x1 _ _ h B => ?_)
  refine jr_if_eq (tgt := 15) C (zR z_x1) h dX5_takesCaret_4 (by decide) (fun hc4 h => ?_) (fun hc4 h => ?_)
  · refine jr_iconst C dX5_takesCaret_15 ?_
    exact jr_zret C B hr hlocks (Or.inl rfl) h dX5_takesCaret_16
  · refine lv_aload_n C.1 C.2.1 dX5_takesCaret_7 rfl (lv_at hl 0 rfl) ?_
    refine gf_X5_22 C B k_o dX5_takesCaret_8 ?_
    refine jr_iconst C dX5_takesCaret_11 ?_
    refine jr_icmp_lt (tgt := 17) C (o_M o 2).1 (jkc rfl) h dX5_takesCaret_12 (by decide) (fun hc12 h => ?_) (fun hc12 h => ?_)
    · refine lv_aload_n C.1 C.2.1 dX5_takesCaret_17 rfl (lv_at hl 0 rfl) ?_
      refine lv_dup C.1 C.2.1 dX5_takesCaret_18 rfl ?_
      refine gf_X5_22 C B k_o dX5_takesCaret_19 ?_
      refine jr_iconst C dX5_takesCaret_22 ?_
      refine jr_iadd C dX5_takesCaret_23 ?_
      refine pf_X5_22 C B k_o (jW_R _) h dX5_takesCaret_24 (fun M2 _ _ h B => ?_)
      have o_M2 := B.2.2
      refine lv_aload_n C.1 C.2.1 dX5_takesCaret_27 rfl (lv_at hl 0 rfl) ?_
      refine jr_iconst C dX5_takesCaret_28 ?_
      refine pf_X5_18 C B k_o (jkc rfl) h dX5_takesCaret_29 (fun M3 _ _ h B => ?_)
      have o_M3 := B.2.2
      refine jr_iconst C dX5_takesCaret_32 ?_
      exact jr_zret C B hr hlocks (Or.inr rfl) h dX5_takesCaret_33
    · refine jr_iconst C dX5_takesCaret_15 ?_
      exact jr_zret C B hr hlocks (Or.inl rfl) h dX5_takesCaret_16
theorem cl_X5_takesCaret {p : Program} {l : Launch} {e : Env} {R : Room} {s : State} {m : MethodId} {args : Array Value} {below : List Frame} {meth : Method} {c : Code} {H : Heap} {locs : List Loc} {cells slots : Nat} {Q : State → Prop} {cc : ByteArray} {nL : Nat} {own : String} {G : jG} {H0 : Heap} {pc idx : Nat} {ls : Array Slot} {rest : List Value} {M : jM} {o : Int} {k : Int → jM → Prop} (C : Cx G p s args m c cc nL own) (hl : ls.size = nL) (B : Hp G M H0 H locs) (q1 : Cond.methodLink own idx yX5_takesCaret ∈ tb) (hR : (rmm 1 20).frames + 1 ≤ R.frames ∧ 8 + (1 + 11) + (rmm 1 20).locals ≤ R.locals) (hcs : cells ≤ R.cells ∧ slots ≤ R.slots) (hW : (rest.map fun v => v.category).sum ≤ 8) (k_o : jK o = 6) (h : w_X5_takesCaret M o k) (hdg : decode cc pc = .ok (.invokevirtual idx, 3)) (kk : ∀ (r : Int) (M' : jM), (r = 0 ∨ r = 1) → ∀ (H1 : Heap) (locs1 : List Loc), k r M' → Hp G M' H0 H1 locs1 → W p l e R s m args below meth c H1 locs1 cells slots Q (F0 m (pc + 3) ls (.int (jI r) :: rest))) : W p l e R s m args below meth c H locs cells slots Q (F0 m pc ls (.ref (jD G o) :: rest)) :=
  jr_callZ B (jr_runV (o := o) (As := []) (n := 0) C hl B (m_X5_takesCaret B.2.2 k_o h) (jE6 k_o) (by omega) rfl q1 q_611 qs_18 q_612 q_5 ⟨by decide, by decide, by decide +kernel⟩ rfl ⟨rfl, rfl⟩ hR hcs rfl hW hdg) (fun r M' H1 locs1 hr hk B1 => kk r M' hr H1 locs1 hk B1)
def w_X5_beginNumber (N : Nat) (M : jM) (o : Int) (k : jM → Prop) : Prop := (if (M o 1) = 0 then (w_X1_addValue N M (o + 1) (M o 2) 0 0 (fun M1 => (jL (jU M1 o 3 0) (fun M2 => (jL (jU M2 o 4 0) (fun M3 => (k M3))))))) else (jL (jU M o 3 0) (fun M4 => (jL (jU M4 o 4 0) (fun M5 => (k M5))))))
set_option maxHeartbeats 4000000 in
set_option maxRecDepth 100000 in
theorem m_X5_beginNumber {l : Launch} {G : jG} {N : Nat} {M : jM} {o : Int} {k : jM → Prop} (o_M : jOK M) (k_o : jK o = 6) (h : w_X5_beginNumber N M o k) : Met l yX5_beginNumber (wsG yX5_beginNumber cX5_beginNumber 1 none) (rmm 3 89) (jPc G M [.ref (jD G o)]) (qV G k) 0 0 (gA G) := by
  refine jm_start RX5 rfl (by decide) (Nat.le_of_ble_eq_true rfl) o_M ?_
  intro p e s m args below meth c ls C hr hlocks hl B
  have hl : lv_has ls 1 [(0, .ref (jD G o))] := hl
  unfold w_X5_beginNumber at h
  refine lv_aload_n C.1 C.2.1 dX5_beginNumber_0 rfl (lv_at hl 0 rfl) ?_
  refine gf_X5_18 C B k_o dX5_beginNumber_1 ?_
  refine jr_if_ne (tgt := 20) C (o_M o 1).1 h dX5_beginNumber_4 (by decide) (fun hc4 h => ?_) (fun hc4 h => ?_)
  · refine lv_aload_n C.1 C.2.1 dX5_beginNumber_7 rfl (lv_at hl 0 rfl) ?_
    refine gf_X5_12 C B k_o dX5_beginNumber_8 ?_
    refine lv_aload_n C.1 C.2.1 dX5_beginNumber_11 rfl (lv_at hl 0 rfl) ?_
    refine gf_X5_22 C B k_o dX5_beginNumber_12 ?_
    refine jr_iconst C dX5_beginNumber_15 ?_
    refine jr_iconst C dX5_beginNumber_16 ?_
    refine cl_X1_addValue C hl.1 B q_584 ⟨Nat.le_of_ble_eq_true rfl, Nat.le_of_ble_eq_true rfl⟩ ⟨Nat.zero_le _, Nat.zero_le _⟩ (Nat.le_of_ble_eq_true rfl) (ko_X5_0 k_o) (o_M o 2).1 (jkc rfl) (jkc rfl) h dX5_beginNumber_17 (fun M1 _ _ h B => ?_)
    have o_M1 := B.2.2
    refine lv_aload_n C.1 C.2.1 dX5_beginNumber_20 rfl (lv_at hl 0 rfl) ?_
    refine jr_iconst C dX5_beginNumber_21 ?_
    refine pf_X5_25 C B k_o (jkc rfl) h dX5_beginNumber_22 (fun M2 _ _ h B => ?_)
    have o_M2 := B.2.2
    refine lv_aload_n C.1 C.2.1 dX5_beginNumber_25 rfl (lv_at hl 0 rfl) ?_
    refine jr_iconst C dX5_beginNumber_26 ?_
    refine pf_X5_28 C B k_o (Or.inl rfl) h dX5_beginNumber_27 (fun M3 _ _ h B => ?_)
    have o_M3 := B.2.2
    exact jr_vret C B hr hlocks h dX5_beginNumber_30
  · refine lv_aload_n C.1 C.2.1 dX5_beginNumber_20 rfl (lv_at hl 0 rfl) ?_
    refine jr_iconst C dX5_beginNumber_21 ?_
    refine pf_X5_25 C B k_o (jkc rfl) h dX5_beginNumber_22 (fun M4 _ _ h B => ?_)
    have o_M4 := B.2.2
    refine lv_aload_n C.1 C.2.1 dX5_beginNumber_25 rfl (lv_at hl 0 rfl) ?_
    refine jr_iconst C dX5_beginNumber_26 ?_
    refine pf_X5_28 C B k_o (Or.inl rfl) h dX5_beginNumber_27 (fun M5 _ _ h B => ?_)
    have o_M5 := B.2.2
    exact jr_vret C B hr hlocks h dX5_beginNumber_30
theorem cl_X5_beginNumber {p : Program} {l : Launch} {e : Env} {R : Room} {s : State} {m : MethodId} {args : Array Value} {below : List Frame} {meth : Method} {c : Code} {H : Heap} {locs : List Loc} {cells slots : Nat} {Q : State → Prop} {cc : ByteArray} {nL : Nat} {own : String} {G : jG} {H0 : Heap} {pc idx : Nat} {ls : Array Slot} {rest : List Value} {N : Nat} {M : jM} {o : Int} {k : jM → Prop} (C : Cx G p s args m c cc nL own) (hl : ls.size = nL) (B : Hp G M H0 H locs) (q1 : Cond.methodLink own idx yX5_beginNumber ∈ tb) (hR : (rmm 3 89).frames + 1 ≤ R.frames ∧ 8 + (1 + 11) + (rmm 3 89).locals ≤ R.locals) (hcs : cells ≤ R.cells ∧ slots ≤ R.slots) (hW : (rest.map fun v => v.category).sum ≤ 8) (k_o : jK o = 6) (h : w_X5_beginNumber N M o k) (hdg : decode cc pc = .ok (.invokevirtual idx, 3)) (kk : ∀ (M' : jM) (H1 : Heap) (locs1 : List Loc), k M' → Hp G M' H0 H1 locs1 → W p l e R s m args below meth c H1 locs1 cells slots Q (F0 m (pc + 3) ls rest)) : W p l e R s m args below meth c H locs cells slots Q (F0 m pc ls (.ref (jD G o) :: rest)) :=
  jr_callV B (jr_runV (o := o) (As := []) (n := 0) C hl B (m_X5_beginNumber B.2.2 k_o h) (jE6 k_o) (by omega) rfl q1 q_582 qs_12 q_583 q_5 ⟨by decide, by decide, by decide +kernel⟩ rfl ⟨rfl, rfl⟩ hR hcs rfl hW hdg) (fun M' H1 locs1 hk B1 => kk M' H1 locs1 hk B1)
def w_X5_lastSub (M : jM) (o : Int) (k : Int → Prop) : Prop := (w_X5_lastValue M o (fun x1 => (w_X1_subCount M (o + 1) (M o 2) x1 (fun x2 => (k (jW (x2 - 1)))))))
set_option maxHeartbeats 4000000 in
set_option maxRecDepth 100000 in
theorem m_X5_lastSub {l : Launch} {G : jG} {M : jM} {o : Int} {k : Int → Prop} (o_M : jOK M) (k_o : jK o = 6) (h : w_X5_lastSub M o k) : Met l yX5_lastSub (wsG yX5_lastSub cX5_lastSub 1 (some .int)) (rmm 2 41) (jPc G M [.ref (jD G o)]) (qI G (fun r M' => M' = M ∧ k r)) 0 0 (gA G) := by
  refine jm_start RX5 rfl (by decide) (Nat.le_of_ble_eq_true rfl) o_M ?_
  intro p e s m args below meth c ls C hr hlocks hl B
  have hl : lv_has ls 1 [(0, .ref (jD G o))] := hl
  unfold w_X5_lastSub at h
  refine lv_aload_n C.1 C.2.1 dX5_lastSub_0 rfl (lv_at hl 0 rfl) ?_
  refine gf_X5_12 C B k_o dX5_lastSub_1 ?_
  refine lv_aload_n C.1 C.2.1 dX5_lastSub_4 rfl (lv_at hl 0 rfl) ?_
  refine gf_X5_22 C B k_o dX5_lastSub_5 ?_
  refine lv_aload_n C.1 C.2.1 dX5_lastSub_8 rfl (lv_at hl 0 rfl) ?_
  refine cl_X5_lastValue C hl.1 B q_585 ⟨Nat.le_of_ble_eq_true rfl, Nat.le_of_ble_eq_true rfl⟩ ⟨Nat.zero_le _, Nat.zero_le _⟩ (Nat.le_of_ble_eq_true rfl) k_o h dX5_lastSub_9 (fun x1 r_x1 _ _ h B => ?_)
  refine cl_X1_subCount C hl.1 B q_594 ⟨Nat.le_of_ble_eq_true rfl, Nat.le_of_ble_eq_true rfl⟩ ⟨Nat.zero_le _, Nat.zero_le _⟩ (Nat.le_of_ble_eq_true rfl) (ko_X5_0 k_o) (o_M o 2).1 r_x1 h dX5_lastSub_12 (fun x2 r_x2 _ _ h B => ?_)
  refine jr_iconst C dX5_lastSub_15 ?_
  refine jr_isub C dX5_lastSub_16 ?_
  exact jr_iret C B hr hlocks (jW_R _) ⟨rfl, h⟩ dX5_lastSub_17
theorem cl_X5_lastSub {p : Program} {l : Launch} {e : Env} {R : Room} {s : State} {m : MethodId} {args : Array Value} {below : List Frame} {meth : Method} {c : Code} {H : Heap} {locs : List Loc} {cells slots : Nat} {Q : State → Prop} {cc : ByteArray} {nL : Nat} {own : String} {G : jG} {H0 : Heap} {pc idx : Nat} {ls : Array Slot} {rest : List Value} {M : jM} {o : Int} {k : Int → Prop} (C : Cx G p s args m c cc nL own) (hl : ls.size = nL) (B : Hp G M H0 H locs) (q1 : Cond.methodLink own idx yX5_lastSub ∈ tb) (hR : (rmm 2 41).frames + 1 ≤ R.frames ∧ 8 + (1 + 11) + (rmm 2 41).locals ≤ R.locals) (hcs : cells ≤ R.cells ∧ slots ≤ R.slots) (hW : (rest.map fun v => v.category).sum ≤ 8) (k_o : jK o = 6) (h : w_X5_lastSub M o k) (hdg : decode cc pc = .ok (.invokevirtual idx, 3)) (kk : ∀ (r : Int), jR r → ∀ (H1 : Heap) (locs1 : List Loc), k r → Hp G M H0 H1 locs1 → W p l e R s m args below meth c H1 locs1 cells slots Q (F0 m (pc + 3) ls (.int (jI r) :: rest))) : W p l e R s m args below meth c H locs cells slots Q (F0 m pc ls (.ref (jD G o) :: rest)) :=
  jr_callI B (jr_runV (o := o) (As := []) (n := 0) C hl B (m_X5_lastSub B.2.2 k_o h) (jE6 k_o) (by omega) rfl q1 q_592 qs_14 q_593 q_5 ⟨by decide, by decide, by decide +kernel⟩ rfl ⟨rfl, rfl⟩ hR hcs rfl hW hdg) (fun r M' H1 locs1 hr hk B1 => by obtain ⟨rfl, hk⟩ := hk; exact kk r hr H1 locs1 hk B1)
def w_X5_takesDigit (N : Nat) (M : jM) (o : Int) (a1 : Int) (k : Int → jM → Prop) : Prop := (jL (fun (M2 : jM) => (jL (fun (x3 : Int) => (jL (jU M2 o 3 (jW ((jW ((M2 o 3) * 10)) + x3))) (fun M5 => (jL (jU M5 o 1 3) (fun M6 => (w_X5_lastValue M6 o (fun x7 => (w_X5_lastSub M6 o (fun x8 => (w_X1_setNumber M6 (o + 1) (M6 o 2) x7 x8 (M6 o 3) (fun M9 => (k 1 M9)))))))))))) (fun j59_4 => (if (M2 o 4) = 0 then (j59_4 a1) else (j59_4 (jW (-a1))))))) (fun j5_1 => (if (M o 1) = 2 then (if a1 = 0 then (k 0 M) else (j5_1 M)) else (if (M o 1) = 3 then (if (M o 3) = 0 then (k 0 M) else (if (jAbs (M o 3)) < 100 then (j5_1 M) else (k 0 M))) else (w_X5_beginNumber N M o (fun M10 => (j5_1 M10)))))))
set_option maxHeartbeats 4000000 in
set_option maxRecDepth 100000 in
theorem m_X5_takesDigit {l : Launch} {G : jG} {N : Nat} {M : jM} {o a1 : Int} {k : Int → jM → Prop} (o_M : jOK M) (k_o : jK o = 6) (r_a1 : jR a1) (h : w_X5_takesDigit N M o a1 k) : Met l yX5_takesDigit (wsG yX5_takesDigit cX5_takesDigit 2 (some .boolean)) (rmm 4 109) (jPc G M [.ref (jD G o), .int (jI a1)]) (qZ G k) 0 0 (gA G) := by
  refine jm_start RX5 rfl (by decide) (Nat.le_of_ble_eq_true rfl) o_M ?_
  intro p e s m args below meth c ls C hr hlocks hl B
  have hl : lv_has ls 2 [(0, .ref (jD G o)), (1, .int (jI a1))] := hl
  unfold w_X5_takesDigit at h
  refine lv_aload_n C.1 C.2.1 dX5_takesDigit_0 rfl (lv_at hl 0 rfl) ?_
  refine gf_X5_18 C B k_o dX5_takesDigit_1 ?_
  refine jr_iconst C dX5_takesDigit_4 ?_
  obtain ⟨j5_1, hj5_1, h⟩ := jx_join (P := fun j5_1 : jM → Prop => ∀ (M2 : jM) (H : Heap) (locs : List Loc) (ls : Array Slot), j5_1 M2 → Hp G M2 s.heap H locs → lv_has ls 2 [(0, .ref (jD G o)), (1, .int (jI a1))] → W p l e (rmm 4 109) s m args below meth c H locs 0 0 (MQ below (qZ G k) args s 0 0 (gA G)) (F0 m 47 ls [])) h (by
    intro M2 H locs ls h  B hl
    have o_M2 := B.2.2
    refine lv_aload_n C.1 C.2.1 dX5_takesDigit_47 rfl (lv_at hl 0 rfl) ?_
    refine lv_aload_n C.1 C.2.1 dX5_takesDigit_48 rfl (lv_at hl 0 rfl) ?_
    refine gf_X5_25 C B k_o dX5_takesDigit_49 ?_
    refine jr_bipush C dX5_takesDigit_52 (by decide) ?_
    refine jr_imul C dX5_takesDigit_54 ?_
    refine lv_aload_n C.1 C.2.1 dX5_takesDigit_55 rfl (lv_at hl 0 rfl) ?_
    refine gf_X5_28 C B k_o dX5_takesDigit_56 ?_
    obtain ⟨j59_4, hj59_4, h⟩ := jx_join (P := fun j59_4 : Int → Prop => ∀ (x3 : Int) (H : Heap) (locs : List Loc) (ls : Array Slot), j59_4 x3 → jR x3 → Hp G M2 s.heap H locs → lv_has ls 2 [(0, .ref (jD G o))] → W p l e (rmm 4 109) s m args below meth c H locs 0 0 (MQ below (qZ G k) args s 0 0 (gA G)) (F0 m 68 ls [.int (jI x3), .int (jI (jW ((M2 o 3) * 10))), .ref (jD G o)])) h (by
      intro x3 H locs ls h r_x3 B hl
      refine jr_iadd C dX5_takesDigit_68 ?_
      refine pf_X5_25 C B k_o (jW_R _) h dX5_takesDigit_69 (fun M5 _ _ h B => ?_)
      have o_M5 := B.2.2
      refine lv_aload_n C.1 C.2.1 dX5_takesDigit_72 rfl (lv_at hl 0 rfl) ?_
      refine jr_iconst C dX5_takesDigit_73 ?_
      refine pf_X5_18 C B k_o (jkc rfl) h dX5_takesDigit_74 (fun M6 _ _ h B => ?_)
      have o_M6 := B.2.2
      refine lv_aload_n C.1 C.2.1 dX5_takesDigit_77 rfl (lv_at hl 0 rfl) ?_
      refine gf_X5_12 C B k_o dX5_takesDigit_78 ?_
      refine lv_aload_n C.1 C.2.1 dX5_takesDigit_81 rfl (lv_at hl 0 rfl) ?_
      refine gf_X5_22 C B k_o dX5_takesDigit_82 ?_
      refine lv_aload_n C.1 C.2.1 dX5_takesDigit_85 rfl (lv_at hl 0 rfl) ?_
      refine cl_X5_lastValue C hl.1 B q_585 ⟨Nat.le_of_ble_eq_true rfl, Nat.le_of_ble_eq_true rfl⟩ ⟨Nat.zero_le _, Nat.zero_le _⟩ (Nat.le_of_ble_eq_true rfl) k_o h dX5_takesDigit_86 (fun x7 r_x7 _ _ h B => ?_)
      refine lv_aload_n C.1 C.2.1 dX5_takesDigit_89 rfl (lv_at hl 0 rfl) ?_
      refine cl_X5_lastSub C hl.1 B q_590 ⟨Nat.le_of_ble_eq_true rfl, Nat.le_of_ble_eq_true rfl⟩ ⟨Nat.zero_le _, Nat.zero_le _⟩ (Nat.le_of_ble_eq_true rfl) k_o h dX5_takesDigit_90 (fun x8 r_x8 _ _ h B => ?_)
      refine lv_aload_n C.1 C.2.1 dX5_takesDigit_93 rfl (lv_at hl 0 rfl) ?_
      refine gf_X5_25 C B k_o dX5_takesDigit_94 ?_
      refine cl_X1_setNumber C hl.1 B q_595 ⟨Nat.le_of_ble_eq_true rfl, Nat.le_of_ble_eq_true rfl⟩ ⟨Nat.zero_le _, Nat.zero_le _⟩ (Nat.le_of_ble_eq_true rfl) (ko_X5_0 k_o) (o_M6 o 2).1 r_x7 r_x8 (o_M6 o 3).1 h dX5_takesDigit_97 (fun M9 _ _ h B => ?_)
      have o_M9 := B.2.2
      refine jr_iconst C dX5_takesDigit_100 ?_
      exact jr_zret C B hr hlocks (Or.inr rfl) h dX5_takesDigit_101)
    refine jr_if_eq (tgt := 67) C (zR (jz_X5_4 o_M2 k_o)) h dX5_takesDigit_59 (by decide) (fun hc59 h => ?_) (fun hc59 h => ?_)
    · refine lv_iload_n C.1 C.2.1 dX5_takesDigit_67 rfl (lv_at hl 1 rfl) ?_
      exact hj59_4 _ _ _ _ h r_a1 B (lv_sub hl [0] rfl)
    · refine lv_iload_n C.1 C.2.1 dX5_takesDigit_62 rfl (lv_at hl 1 rfl) ?_
      refine jr_ineg C dX5_takesDigit_63 ?_
      refine lv_goto (tgt := 68) C.1 C.2.1 dX5_takesDigit_64 (by decide) ?_
      exact hj59_4 _ _ _ _ h (jW_R _) B (lv_sub hl [0] rfl))
  refine jr_icmp_ne (tgt := 14) C (o_M o 1).1 (jkc rfl) h dX5_takesDigit_5 (by decide) (fun hc5 h => ?_) (fun hc5 h => ?_)
  · refine lv_iload_n C.1 C.2.1 dX5_takesDigit_8 rfl (lv_at hl 1 rfl) ?_
    refine jr_if_ne (tgt := 47) C r_a1 h dX5_takesDigit_9 (by decide) (fun hc9 h => ?_) (fun hc9 h => ?_)
    · refine jr_iconst C dX5_takesDigit_12 ?_
      exact jr_zret C B hr hlocks (Or.inl rfl) h dX5_takesDigit_13
    · exact hj5_1 _ _ _ _ h  B (lv_sub hl [0, 1] rfl)
  · refine lv_aload_n C.1 C.2.1 dX5_takesDigit_14 rfl (lv_at hl 0 rfl) ?_
    refine gf_X5_18 C B k_o dX5_takesDigit_15 ?_
    refine jr_iconst C dX5_takesDigit_18 ?_
    refine jr_icmp_ne (tgt := 43) C (o_M o 1).1 (jkc rfl) h dX5_takesDigit_19 (by decide) (fun hc19 h => ?_) (fun hc19 h => ?_)
    · refine lv_aload_n C.1 C.2.1 dX5_takesDigit_22 rfl (lv_at hl 0 rfl) ?_
      refine gf_X5_25 C B k_o dX5_takesDigit_23 ?_
      refine jr_if_eq (tgt := 41) C (o_M o 3).1 h dX5_takesDigit_26 (by decide) (fun hc26 h => ?_) (fun hc26 h => ?_)
      · refine jr_iconst C dX5_takesDigit_41 ?_
        exact jr_zret C B hr hlocks (Or.inl rfl) h dX5_takesDigit_42
      · refine lv_aload_n C.1 C.2.1 dX5_takesDigit_29 rfl (lv_at hl 0 rfl) ?_
        refine gf_X5_25 C B k_o dX5_takesDigit_30 ?_
        refine jr_mabs C hl.1 q_577 q_578 q_8 q_579 (o_M o 3).1 (Nat.le_of_ble_eq_true rfl) (Nat.le_of_ble_eq_true rfl) ⟨Nat.zero_le _, Nat.zero_le _⟩ dX5_takesDigit_33 ?_
        refine jr_bipush C dX5_takesDigit_36 (by decide) ?_
        refine jr_icmp_lt (tgt := 47) C (jAbs_R (o_M o 3).1) (jkc rfl) h dX5_takesDigit_38 (by decide) (fun hc38 h => ?_) (fun hc38 h => ?_)
        · exact hj5_1 _ _ _ _ h  B (lv_sub hl [0, 1] rfl)
        · refine jr_iconst C dX5_takesDigit_41 ?_
          exact jr_zret C B hr hlocks (Or.inl rfl) h dX5_takesDigit_42
    · refine lv_aload_n C.1 C.2.1 dX5_takesDigit_43 rfl (lv_at hl 0 rfl) ?_
      refine cl_X5_beginNumber C hl.1 B q_580 ⟨Nat.le_of_ble_eq_true rfl, Nat.le_of_ble_eq_true rfl⟩ ⟨Nat.zero_le _, Nat.zero_le _⟩ (Nat.le_of_ble_eq_true rfl) k_o h dX5_takesDigit_44 (fun M10 _ _ h B => ?_)
      have o_M10 := B.2.2
      exact hj5_1 _ _ _ _ h  B (lv_sub hl [0, 1] rfl)
theorem cl_X5_takesDigit {p : Program} {l : Launch} {e : Env} {R : Room} {s : State} {m : MethodId} {args : Array Value} {below : List Frame} {meth : Method} {c : Code} {H : Heap} {locs : List Loc} {cells slots : Nat} {Q : State → Prop} {cc : ByteArray} {nL : Nat} {own : String} {G : jG} {H0 : Heap} {pc idx : Nat} {ls : Array Slot} {rest : List Value} {N : Nat} {M : jM} {o a1 : Int} {k : Int → jM → Prop} (C : Cx G p s args m c cc nL own) (hl : ls.size = nL) (B : Hp G M H0 H locs) (q1 : Cond.methodLink own idx yX5_takesDigit ∈ tb) (hR : (rmm 4 109).frames + 1 ≤ R.frames ∧ 8 + (2 + 11) + (rmm 4 109).locals ≤ R.locals) (hcs : cells ≤ R.cells ∧ slots ≤ R.slots) (hW : (rest.map fun v => v.category).sum ≤ 8) (k_o : jK o = 6) (r_a1 : jR a1) (h : w_X5_takesDigit N M o a1 k) (hdg : decode cc pc = .ok (.invokevirtual idx, 3)) (kk : ∀ (r : Int) (M' : jM), (r = 0 ∨ r = 1) → ∀ (H1 : Heap) (locs1 : List Loc), k r M' → Hp G M' H0 H1 locs1 → W p l e R s m args below meth c H1 locs1 cells slots Q (F0 m (pc + 3) ls (.int (jI r) :: rest))) : W p l e R s m args below meth c H locs cells slots Q (F0 m pc ls (.int (jI a1) :: .ref (jD G o) :: rest)) :=
  jr_callZ B (jr_runV (o := o) (As := [.int (jI a1)]) (n := 1) C hl B (m_X5_takesDigit B.2.2 k_o r_a1 h) (jE6 k_o) (by omega) rfl q1 q_575 qs_11 q_576 q_5 ⟨by decide, by decide, by decide +kernel⟩ rfl ⟨rfl, rfl⟩ hR hcs rfl hW hdg) (fun r M' H1 locs1 hr hk B1 => kk r M' hr H1 locs1 hk B1)
def w_X5_takesMinus (N : Nat) (M : jM) (o : Int) (k : Int → jM → Prop) : Prop := (if (M o 1) = 0 then (w_X5_beginNumber N M o (fun M1 => (jL (jU M1 o 4 1) (fun M2 => (jL (jU M2 o 1 2) (fun M3 => (k 1 M3))))))) else (if (M o 1) = 1 then (w_X5_beginNumber N M o (fun M4 => (jL (jU M4 o 4 1) (fun M5 => (jL (jU M5 o 1 2) (fun M6 => (k 1 M6))))))) else (k 0 M)))
set_option maxHeartbeats 4000000 in
set_option maxRecDepth 100000 in
theorem m_X5_takesMinus {l : Launch} {G : jG} {N : Nat} {M : jM} {o : Int} {k : Int → jM → Prop} (o_M : jOK M) (k_o : jK o = 6) (h : w_X5_takesMinus N M o k) : Met l yX5_takesMinus (wsG yX5_takesMinus cX5_takesMinus 1 (some .boolean)) (rmm 4 109) (jPc G M [.ref (jD G o)]) (qZ G k) 0 0 (gA G) := by
  refine jm_start RX5 rfl (by decide) (Nat.le_of_ble_eq_true rfl) o_M ?_
  intro p e s m args below meth c ls C hr hlocks hl B
  have hl : lv_has ls 1 [(0, .ref (jD G o))] := hl
  unfold w_X5_takesMinus at h
  refine lv_aload_n C.1 C.2.1 dX5_takesMinus_0 rfl (lv_at hl 0 rfl) ?_
  refine gf_X5_18 C B k_o dX5_takesMinus_1 ?_
  refine jr_if_eq (tgt := 17) C (o_M o 1).1 h dX5_takesMinus_4 (by decide) (fun hc4 h => ?_) (fun hc4 h => ?_)
  · refine lv_aload_n C.1 C.2.1 dX5_takesMinus_17 rfl (lv_at hl 0 rfl) ?_
    refine cl_X5_beginNumber C hl.1 B q_580 ⟨Nat.le_of_ble_eq_true rfl, Nat.le_of_ble_eq_true rfl⟩ ⟨Nat.zero_le _, Nat.zero_le _⟩ (Nat.le_of_ble_eq_true rfl) k_o h dX5_takesMinus_18 (fun M1 _ _ h B => ?_)
    have o_M1 := B.2.2
    refine lv_aload_n C.1 C.2.1 dX5_takesMinus_21 rfl (lv_at hl 0 rfl) ?_
    refine jr_iconst C dX5_takesMinus_22 ?_
    refine pf_X5_28 C B k_o (Or.inr rfl) h dX5_takesMinus_23 (fun M2 _ _ h B => ?_)
    have o_M2 := B.2.2
    refine lv_aload_n C.1 C.2.1 dX5_takesMinus_26 rfl (lv_at hl 0 rfl) ?_
    refine jr_iconst C dX5_takesMinus_27 ?_
    refine pf_X5_18 C B k_o (jkc rfl) h dX5_takesMinus_28 (fun M3 _ _ h B => ?_)
    have o_M3 := B.2.2
    refine jr_iconst C dX5_takesMinus_31 ?_
    exact jr_zret C B hr hlocks (Or.inr rfl) h dX5_takesMinus_32
  · refine lv_aload_n C.1 C.2.1 dX5_takesMinus_7 rfl (lv_at hl 0 rfl) ?_
    refine gf_X5_18 C B k_o dX5_takesMinus_8 ?_
    refine jr_iconst C dX5_takesMinus_11 ?_
    refine jr_icmp_eq (tgt := 17) C (o_M o 1).1 (jkc rfl) h dX5_takesMinus_12 (by decide) (fun hc12 h => ?_) (fun hc12 h => ?_)
    · refine lv_aload_n C.1 C.2.1 dX5_takesMinus_17 rfl (lv_at hl 0 rfl) ?_
      refine cl_X5_beginNumber C hl.1 B q_580 ⟨Nat.le_of_ble_eq_true rfl, Nat.le_of_ble_eq_true rfl⟩ ⟨Nat.zero_le _, Nat.zero_le _⟩ (Nat.le_of_ble_eq_true rfl) k_o h dX5_takesMinus_18 (fun M4 _ _ h B => ?_)
      have o_M4 := B.2.2
      refine lv_aload_n C.1 C.2.1 dX5_takesMinus_21 rfl (lv_at hl 0 rfl) ?_
      refine jr_iconst C dX5_takesMinus_22 ?_
      refine pf_X5_28 C B k_o (Or.inr rfl) h dX5_takesMinus_23 (fun M5 _ _ h B => ?_)
      have o_M5 := B.2.2
      refine lv_aload_n C.1 C.2.1 dX5_takesMinus_26 rfl (lv_at hl 0 rfl) ?_
      refine jr_iconst C dX5_takesMinus_27 ?_
      refine pf_X5_18 C B k_o (jkc rfl) h dX5_takesMinus_28 (fun M6 _ _ h B => ?_)
      have o_M6 := B.2.2
      refine jr_iconst C dX5_takesMinus_31 ?_
      exact jr_zret C B hr hlocks (Or.inr rfl) h dX5_takesMinus_32
    · refine jr_iconst C dX5_takesMinus_15 ?_
      exact jr_zret C B hr hlocks (Or.inl rfl) h dX5_takesMinus_16
theorem cl_X5_takesMinus {p : Program} {l : Launch} {e : Env} {R : Room} {s : State} {m : MethodId} {args : Array Value} {below : List Frame} {meth : Method} {c : Code} {H : Heap} {locs : List Loc} {cells slots : Nat} {Q : State → Prop} {cc : ByteArray} {nL : Nat} {own : String} {G : jG} {H0 : Heap} {pc idx : Nat} {ls : Array Slot} {rest : List Value} {N : Nat} {M : jM} {o : Int} {k : Int → jM → Prop} (C : Cx G p s args m c cc nL own) (hl : ls.size = nL) (B : Hp G M H0 H locs) (q1 : Cond.methodLink own idx yX5_takesMinus ∈ tb) (hR : (rmm 4 109).frames + 1 ≤ R.frames ∧ 8 + (1 + 11) + (rmm 4 109).locals ≤ R.locals) (hcs : cells ≤ R.cells ∧ slots ≤ R.slots) (hW : (rest.map fun v => v.category).sum ≤ 8) (k_o : jK o = 6) (h : w_X5_takesMinus N M o k) (hdg : decode cc pc = .ok (.invokevirtual idx, 3)) (kk : ∀ (r : Int) (M' : jM), (r = 0 ∨ r = 1) → ∀ (H1 : Heap) (locs1 : List Loc), k r M' → Hp G M' H0 H1 locs1 → W p l e R s m args below meth c H1 locs1 cells slots Q (F0 m (pc + 3) ls (.int (jI r) :: rest))) : W p l e R s m args below meth c H locs cells slots Q (F0 m pc ls (.ref (jD G o) :: rest)) :=
  jr_callZ B (jr_runV (o := o) (As := []) (n := 0) C hl B (m_X5_takesMinus B.2.2 k_o h) (jE6 k_o) (by omega) rfl q1 q_598 qs_15 q_599 q_5 ⟨by decide, by decide, by decide +kernel⟩ rfl ⟨rfl, rfl⟩ hR hcs rfl hW hdg) (fun r M' H1 locs1 hr hk B1 => kk r M' hr H1 locs1 hk B1)
def w_X5_takesSlash (N : Nat) (M : jM) (o : Int) (k : Int → jM → Prop) : Prop := (if (M o 1) = 3 then (w_X5_lastSub M o (fun x1 => (if x1 < 3 then (w_X5_lastValue M o (fun x2 => (w_X5_lastSub M o (fun x3 => (w_X1_addSub N M (o + 1) (M o 2) x2 (jW (x3 + 1)) 0 (fun M4 => (jL (jU M4 o 1 1) (fun M5 => (k 1 M5))))))))) else (k 0 M)))) else (k 0 M))
set_option maxHeartbeats 4000000 in
set_option maxRecDepth 100000 in
theorem m_X5_takesSlash {l : Launch} {G : jG} {N : Nat} {M : jM} {o : Int} {k : Int → jM → Prop} (o_M : jOK M) (k_o : jK o = 6) (h : w_X5_takesSlash N M o k) : Met l yX5_takesSlash (wsG yX5_takesSlash cX5_takesSlash 1 (some .boolean)) (rmm 3 61) (jPc G M [.ref (jD G o)]) (qZ G k) 0 0 (gA G) := by
  refine jm_start RX5 rfl (by decide) (Nat.le_of_ble_eq_true rfl) o_M ?_
  intro p e s m args below meth c ls C hr hlocks hl B
  have hl : lv_has ls 1 [(0, .ref (jD G o))] := hl
  unfold w_X5_takesSlash at h
  refine lv_aload_n C.1 C.2.1 dX5_takesSlash_0 rfl (lv_at hl 0 rfl) ?_
  refine gf_X5_18 C B k_o dX5_takesSlash_1 ?_
  refine jr_iconst C dX5_takesSlash_4 ?_
  refine jr_icmp_ne (tgt := 16) C (o_M o 1).1 (jkc rfl) h dX5_takesSlash_5 (by decide) (fun hc5 h => ?_) (fun hc5 h => ?_)
  · refine lv_aload_n C.1 C.2.1 dX5_takesSlash_8 rfl (lv_at hl 0 rfl) ?_
    refine cl_X5_lastSub C hl.1 B q_590 ⟨Nat.le_of_ble_eq_true rfl, Nat.le_of_ble_eq_true rfl⟩ ⟨Nat.zero_le _, Nat.zero_le _⟩ (Nat.le_of_ble_eq_true rfl) k_o h dX5_takesSlash_9 (fun x1 r_x1 _ _ h B => ?_)
    refine jr_iconst C dX5_takesSlash_12 ?_
    refine jr_icmp_lt (tgt := 18) C r_x1 (jkc rfl) h dX5_takesSlash_13 (by decide) (fun hc13 h => ?_) (fun hc13 h => ?_)
    · refine lv_aload_n C.1 C.2.1 dX5_takesSlash_18 rfl (lv_at hl 0 rfl) ?_
      refine gf_X5_12 C B k_o dX5_takesSlash_19 ?_
      refine lv_aload_n C.1 C.2.1 dX5_takesSlash_22 rfl (lv_at hl 0 rfl) ?_
      refine gf_X5_22 C B k_o dX5_takesSlash_23 ?_
      refine lv_aload_n C.1 C.2.1 dX5_takesSlash_26 rfl (lv_at hl 0 rfl) ?_
      refine cl_X5_lastValue C hl.1 B q_585 ⟨Nat.le_of_ble_eq_true rfl, Nat.le_of_ble_eq_true rfl⟩ ⟨Nat.zero_le _, Nat.zero_le _⟩ (Nat.le_of_ble_eq_true rfl) k_o h dX5_takesSlash_27 (fun x2 r_x2 _ _ h B => ?_)
      refine lv_aload_n C.1 C.2.1 dX5_takesSlash_30 rfl (lv_at hl 0 rfl) ?_
      refine cl_X5_lastSub C hl.1 B q_590 ⟨Nat.le_of_ble_eq_true rfl, Nat.le_of_ble_eq_true rfl⟩ ⟨Nat.zero_le _, Nat.zero_le _⟩ (Nat.le_of_ble_eq_true rfl) k_o h dX5_takesSlash_31 (fun x3 r_x3 _ _ h B => ?_)
      refine jr_iconst C dX5_takesSlash_34 ?_
      refine jr_iadd C dX5_takesSlash_35 ?_
      refine jr_iconst C dX5_takesSlash_36 ?_
      refine cl_X1_addSub C hl.1 B q_604 ⟨Nat.le_of_ble_eq_true rfl, Nat.le_of_ble_eq_true rfl⟩ ⟨Nat.zero_le _, Nat.zero_le _⟩ (Nat.le_of_ble_eq_true rfl) (ko_X5_0 k_o) (o_M o 2).1 r_x2 (jW_R _) (jkc rfl) h dX5_takesSlash_37 (fun M4 _ _ h B => ?_)
      have o_M4 := B.2.2
      refine lv_aload_n C.1 C.2.1 dX5_takesSlash_40 rfl (lv_at hl 0 rfl) ?_
      refine jr_iconst C dX5_takesSlash_41 ?_
      refine pf_X5_18 C B k_o (jkc rfl) h dX5_takesSlash_42 (fun M5 _ _ h B => ?_)
      have o_M5 := B.2.2
      refine jr_iconst C dX5_takesSlash_45 ?_
      exact jr_zret C B hr hlocks (Or.inr rfl) h dX5_takesSlash_46
    · refine jr_iconst C dX5_takesSlash_16 ?_
      exact jr_zret C B hr hlocks (Or.inl rfl) h dX5_takesSlash_17
  · refine jr_iconst C dX5_takesSlash_16 ?_
    exact jr_zret C B hr hlocks (Or.inl rfl) h dX5_takesSlash_17
theorem cl_X5_takesSlash {p : Program} {l : Launch} {e : Env} {R : Room} {s : State} {m : MethodId} {args : Array Value} {below : List Frame} {meth : Method} {c : Code} {H : Heap} {locs : List Loc} {cells slots : Nat} {Q : State → Prop} {cc : ByteArray} {nL : Nat} {own : String} {G : jG} {H0 : Heap} {pc idx : Nat} {ls : Array Slot} {rest : List Value} {N : Nat} {M : jM} {o : Int} {k : Int → jM → Prop} (C : Cx G p s args m c cc nL own) (hl : ls.size = nL) (B : Hp G M H0 H locs) (q1 : Cond.methodLink own idx yX5_takesSlash ∈ tb) (hR : (rmm 3 61).frames + 1 ≤ R.frames ∧ 8 + (1 + 11) + (rmm 3 61).locals ≤ R.locals) (hcs : cells ≤ R.cells ∧ slots ≤ R.slots) (hW : (rest.map fun v => v.category).sum ≤ 8) (k_o : jK o = 6) (h : w_X5_takesSlash N M o k) (hdg : decode cc pc = .ok (.invokevirtual idx, 3)) (kk : ∀ (r : Int) (M' : jM), (r = 0 ∨ r = 1) → ∀ (H1 : Heap) (locs1 : List Loc), k r M' → Hp G M' H0 H1 locs1 → W p l e R s m args below meth c H1 locs1 cells slots Q (F0 m (pc + 3) ls (.int (jI r) :: rest))) : W p l e R s m args below meth c H locs cells slots Q (F0 m pc ls (.ref (jD G o) :: rest)) :=
  jr_callZ B (jr_runV (o := o) (As := []) (n := 0) C hl B (m_X5_takesSlash B.2.2 k_o h) (jE6 k_o) (by omega) rfl q1 q_602 qs_16 q_603 q_5 ⟨by decide, by decide, by decide +kernel⟩ rfl ⟨rfl, rfl⟩ hR hcs rfl hW hdg) (fun r M' H1 locs1 hr hk B1 => kk r M' hr H1 locs1 hk B1)
def w_X5_takes (N : Nat) (M : jM) (o : Int) (a1 : Int) (k : Int → jM → Prop) : Prop := (jL (fun (M2 : jM) => (if a1 = 45 then (w_X5_takesMinus N M2 o (fun x3 M4 => (k x3 M4))) else (if a1 = 47 then (w_X5_takesSlash N M2 o (fun x5 M6 => (k x5 M6))) else (if a1 = 93 then (w_X5_takesBracket N M2 o (fun x7 M8 => (k x7 M8))) else (if a1 = 94 then (w_X5_takesCaret M2 o (fun x9 M10 => (k x9 M10))) else (k 0 M2)))))) (fun j3_1 => (if a1 < 48 then (j3_1 M) else (if a1 ≤ 57 then (w_X5_takesDigit N M o (jW (a1 - 48)) (fun x11 M12 => (k x11 M12))) else (j3_1 M)))))
set_option maxHeartbeats 4000000 in
set_option maxRecDepth 100000 in
theorem m_X5_takes {l : Launch} {G : jG} {N : Nat} {M : jM} {o a1 : Int} {k : Int → jM → Prop} (o_M : jOK M) (k_o : jK o = 6) (r_a1 : jR a1) (h : w_X5_takes N M o a1 k) : Met l yX5_takes (wsG yX5_takes cX5_takes 2 (some .boolean)) (rmm 5 130) (jPc G M [.ref (jD G o), .int (jI a1)]) (qZ G k) 0 0 (gA G) := by
  refine jm_start RX5 rfl (by decide) (Nat.le_of_ble_eq_true rfl) o_M ?_
  intro p e s m args below meth c ls C hr hlocks hl B
  have hl : lv_has ls 2 [(0, .ref (jD G o)), (1, .int (jI a1))] := hl
  unfold w_X5_takes at h
  refine lv_iload_n C.1 C.2.1 dX5_takes_0 rfl (lv_at hl 1 rfl) ?_
  refine jr_bipush C dX5_takes_1 (by decide) ?_
  obtain ⟨j3_1, hj3_1, h⟩ := jx_join (P := fun j3_1 : jM → Prop => ∀ (M2 : jM) (H : Heap) (locs : List Loc) (ls : Array Slot), j3_1 M2 → Hp G M2 s.heap H locs → lv_has ls 2 [(0, .ref (jD G o)), (1, .int (jI a1))] → W p l e (rmm 5 130) s m args below meth c H locs 0 0 (MQ below (qZ G k) args s 0 0 (gA G)) (F0 m 21 ls [])) h (by
    intro M2 H locs ls h  B hl
    have o_M2 := B.2.2
    refine lv_iload_n C.1 C.2.1 dX5_takes_21 rfl (lv_at hl 1 rfl) ?_
    by_cases hs22_45 : a1 = 45
    · rw [if_pos hs22_45] at h
      refine jr_lookup (off := 42) (tgt := 64) C r_a1 (by decide) (by rw [hs22_45]; decide) dX5_takes_22 (by decide) ?_
      refine lv_aload_n C.1 C.2.1 dX5_takes_64 rfl (lv_at hl 0 rfl) ?_
      refine cl_X5_takesMinus C hl.1 B q_596 ⟨Nat.le_of_ble_eq_true rfl, Nat.le_of_ble_eq_true rfl⟩ ⟨Nat.zero_le _, Nat.zero_le _⟩ (Nat.le_of_ble_eq_true rfl) k_o h dX5_takes_65 (fun x3 M4 z_x3 _ _ h B => ?_)
      have o_M4 := B.2.2
      exact jr_zret C B hr hlocks z_x3 h dX5_takes_68
    · rw [if_neg hs22_45] at h
      by_cases hs22_47 : a1 = 47
      · rw [if_pos hs22_47] at h
        refine jr_lookup (off := 47) (tgt := 69) C r_a1 (by decide) (by rw [hs22_47]; decide) dX5_takes_22 (by decide) ?_
        refine lv_aload_n C.1 C.2.1 dX5_takes_69 rfl (lv_at hl 0 rfl) ?_
        refine cl_X5_takesSlash C hl.1 B q_600 ⟨Nat.le_of_ble_eq_true rfl, Nat.le_of_ble_eq_true rfl⟩ ⟨Nat.zero_le _, Nat.zero_le _⟩ (Nat.le_of_ble_eq_true rfl) k_o h dX5_takes_70 (fun x5 M6 z_x5 _ _ h B => ?_)
        have o_M6 := B.2.2
        exact jr_zret C B hr hlocks z_x5 h dX5_takes_73
      · rw [if_neg hs22_47] at h
        by_cases hs22_93 : a1 = 93
        · rw [if_pos hs22_93] at h
          refine jr_lookup (off := 52) (tgt := 74) C r_a1 (by decide) (by rw [hs22_93]; decide) dX5_takes_22 (by decide) ?_
          refine lv_aload_n C.1 C.2.1 dX5_takes_74 rfl (lv_at hl 0 rfl) ?_
          refine cl_X5_takesBracket C hl.1 B q_605 ⟨Nat.le_of_ble_eq_true rfl, Nat.le_of_ble_eq_true rfl⟩ ⟨Nat.zero_le _, Nat.zero_le _⟩ (Nat.le_of_ble_eq_true rfl) k_o h dX5_takes_75 (fun x7 M8 z_x7 _ _ h B => ?_)
          have o_M8 := B.2.2
          exact jr_zret C B hr hlocks z_x7 h dX5_takes_78
        · rw [if_neg hs22_93] at h
          by_cases hs22_94 : a1 = 94
          · rw [if_pos hs22_94] at h
            refine jr_lookup (off := 57) (tgt := 79) C r_a1 (by decide) (by rw [hs22_94]; decide) dX5_takes_22 (by decide) ?_
            refine lv_aload_n C.1 C.2.1 dX5_takes_79 rfl (lv_at hl 0 rfl) ?_
            refine cl_X5_takesCaret C hl.1 B q_609 ⟨Nat.le_of_ble_eq_true rfl, Nat.le_of_ble_eq_true rfl⟩ ⟨Nat.zero_le _, Nat.zero_le _⟩ (Nat.le_of_ble_eq_true rfl) k_o h dX5_takes_80 (fun x9 M10 z_x9 _ _ h B => ?_)
            have o_M10 := B.2.2
            exact jr_zret C B hr hlocks z_x9 h dX5_takes_83
          · rw [if_neg hs22_94] at h
            refine jr_lookup (off := 62) (tgt := 84) C r_a1 (by decide) (by simp [Op.lookupswitch.offset, hs22_45, Ne.symm hs22_45, hs22_47, Ne.symm hs22_47, hs22_93, Ne.symm hs22_93, hs22_94, Ne.symm hs22_94]) dX5_takes_22 (by decide) ?_
            refine jr_iconst C dX5_takes_84 ?_
            exact jr_zret C B hr hlocks (Or.inl rfl) h dX5_takes_85)
  refine jr_icmp_lt (tgt := 21) C r_a1 (jkc rfl) h dX5_takes_3 (by decide) (fun hc3 h => ?_) (fun hc3 h => ?_)
  · exact hj3_1 _ _ _ _ h  B (lv_sub hl [0, 1] rfl)
  · refine lv_iload_n C.1 C.2.1 dX5_takes_6 rfl (lv_at hl 1 rfl) ?_
    refine jr_bipush C dX5_takes_7 (by decide) ?_
    refine jr_icmp_gt (tgt := 21) C r_a1 (jkc rfl) h dX5_takes_9 (by decide) (fun hc9 h => ?_) (fun hc9 h => ?_)
    · refine lv_aload_n C.1 C.2.1 dX5_takes_12 rfl (lv_at hl 0 rfl) ?_
      refine lv_iload_n C.1 C.2.1 dX5_takes_13 rfl (lv_at hl 1 rfl) ?_
      refine jr_bipush C dX5_takes_14 (by decide) ?_
      refine jr_isub C dX5_takes_16 ?_
      refine cl_X5_takesDigit C hl.1 B q_573 ⟨Nat.le_of_ble_eq_true rfl, Nat.le_of_ble_eq_true rfl⟩ ⟨Nat.zero_le _, Nat.zero_le _⟩ (Nat.le_of_ble_eq_true rfl) k_o (jW_R _) h dX5_takes_17 (fun x11 M12 z_x11 _ _ h B => ?_)
      have o_M12 := B.2.2
      exact jr_zret C B hr hlocks z_x11 h dX5_takes_20
    · exact hj3_1 _ _ _ _ h  B (lv_sub hl [0, 1] rfl)
theorem cl_X5_takes {p : Program} {l : Launch} {e : Env} {R : Room} {s : State} {m : MethodId} {args : Array Value} {below : List Frame} {meth : Method} {c : Code} {H : Heap} {locs : List Loc} {cells slots : Nat} {Q : State → Prop} {cc : ByteArray} {nL : Nat} {own : String} {G : jG} {H0 : Heap} {pc idx : Nat} {ls : Array Slot} {rest : List Value} {N : Nat} {M : jM} {o a1 : Int} {k : Int → jM → Prop} (C : Cx G p s args m c cc nL own) (hl : ls.size = nL) (B : Hp G M H0 H locs) (q1 : Cond.methodLink own idx yX5_takes ∈ tb) (hR : (rmm 5 130).frames + 1 ≤ R.frames ∧ 8 + (2 + 11) + (rmm 5 130).locals ≤ R.locals) (hcs : cells ≤ R.cells ∧ slots ≤ R.slots) (hW : (rest.map fun v => v.category).sum ≤ 8) (k_o : jK o = 6) (r_a1 : jR a1) (h : w_X5_takes N M o a1 k) (hdg : decode cc pc = .ok (.invokevirtual idx, 3)) (kk : ∀ (r : Int) (M' : jM), (r = 0 ∨ r = 1) → ∀ (H1 : Heap) (locs1 : List Loc), k r M' → Hp G M' H0 H1 locs1 → W p l e R s m args below meth c H1 locs1 cells slots Q (F0 m (pc + 3) ls (.int (jI r) :: rest))) : W p l e R s m args below meth c H locs cells slots Q (F0 m pc ls (.int (jI a1) :: .ref (jD G o) :: rest)) :=
  jr_callZ B (jr_runV (o := o) (As := [.int (jI a1)]) (n := 1) C hl B (m_X5_takes B.2.2 k_o r_a1 h) (jE6 k_o) (by omega) rfl q1 q_571 qs_10 q_572 q_5 ⟨by decide, by decide, by decide +kernel⟩ rfl ⟨rfl, rfl⟩ hR hcs rfl hW hdg) (fun r M' H1 locs1 hr hk B1 => kk r M' hr H1 locs1 hk B1)
def lp_X5_read_19 (N : Nat) (o : Int) (a1 : Int) (k : Int → jM → Prop) (kx19 : jM → Prop) : Nat → Int → jM → Prop
  | 0, _, _ => False
  | n + 1, x4, M5 => (if x4 < (M5 a1 1) then (w_X3_at M5 a1 x4 (fun x8 => (w_X5_takes N M5 o x8 (fun x9 M10 => (if x9 = 0 then (k x4 M10) else (jL (jW (x4 + 1)) (fun x11 => (lp_X5_read_19 N o a1 k kx19 n x11 M10)))))))) else (kx19 M5))
def w_X5_read (N : Nat) (M : jM) (o : Int) (a1 : Int) (k : Int → jM → Prop) : Prop := (w_X1_emptyFields N M (o + 1) (fun M1 => (jL (jU M1 o 1 0) (fun M2 => (jL (jU M2 o 2 0) (fun M3 => (lp_X5_read_19 N o a1 k (fun (M6 : jM) => (w_X5_isComplete M6 o (fun x7 => (if x7 = 0 then (k (M6 a1 1) M6) else (k (-1000007) M6))))) N 0 M3)))))))
set_option maxHeartbeats 4000000 in
set_option maxRecDepth 100000 in
theorem m_X5_read {l : Launch} {G : jG} {N : Nat} {M : jM} {o a1 : Int} {k : Int → jM → Prop} (o_M : jOK M) (k_o : jK o = 6) (k_a1 : jK a1 = 4) (h : w_X5_read N M o a1 k) : Met l yX5_read (wsG yX5_read cX5_read 3 (some .int)) (rmm 6 151) (jPc G M [.ref (jD G o), .ref (jD G a1)]) (qI G k) 0 0 (gA G) := by
  refine jm_start RX5 rfl (by decide) (Nat.le_of_ble_eq_true rfl) o_M ?_
  intro p e s m args below meth c ls C hr hlocks hl B
  have hl : lv_has ls 3 [(0, .ref (jD G o)), (1, .ref (jD G a1))] := hl
  unfold w_X5_read at h
  refine lv_aload_n C.1 C.2.1 dX5_read_0 rfl (lv_at hl 0 rfl) ?_
  refine gf_X5_12 C B k_o dX5_read_1 ?_
  refine cl_X1_emptyFields C hl.1 B q_563 ⟨Nat.le_of_ble_eq_true rfl, Nat.le_of_ble_eq_true rfl⟩ ⟨Nat.zero_le _, Nat.zero_le _⟩ (Nat.le_of_ble_eq_true rfl) (ko_X5_0 k_o) h dX5_read_4 (fun M1 _ _ h B => ?_)
  have o_M1 := B.2.2
  refine lv_aload_n C.1 C.2.1 dX5_read_7 rfl (lv_at hl 0 rfl) ?_
  refine jr_iconst C dX5_read_8 ?_
  refine pf_X5_18 C B k_o (jkc rfl) h dX5_read_9 (fun M2 _ _ h B => ?_)
  have o_M2 := B.2.2
  refine lv_aload_n C.1 C.2.1 dX5_read_12 rfl (lv_at hl 0 rfl) ?_
  refine jr_iconst C dX5_read_13 ?_
  refine pf_X5_22 C B k_o (jkc rfl) h dX5_read_14 (fun M3 _ _ h B => ?_)
  have o_M3 := B.2.2
  refine jr_iconst C dX5_read_17 ?_
  refine lv_istore_n (lv' := [(2, .int (jI 0)), (0, .ref (jD G o)), (1, .ref (jD G a1))]) C.1 C.2.1 dX5_read_18 rfl hl (by decide) rfl (fun ls hl => ?_)
  obtain ⟨kx19, hkx19, h⟩ : ∃ kx19 : jM → Prop, (∀ (M6 : jM) (H : Heap) (locs : List Loc) (ls : Array Slot), kx19 M6 → Hp G M6 s.heap H locs → lv_has ls 3 [(0, .ref (jD G o)), (1, .ref (jD G a1))] → W p l e (rmm 6 151) s m args below meth c H locs 0 0 (MQ below (qI G k) args s 0 0 (gA G)) (F0 m 47 ls [])) ∧ lp_X5_read_19 N o a1 k kx19 N 0 M3 := by
    refine ⟨_, ?_, h⟩
    intro M6 H locs ls h  B hl
    have o_M6 := B.2.2
    refine lv_aload_n C.1 C.2.1 dX5_read_47 rfl (lv_at hl 0 rfl) ?_
    refine cl_X5_isComplete C hl.1 B q_617 ⟨Nat.le_of_ble_eq_true rfl, Nat.le_of_ble_eq_true rfl⟩ ⟨Nat.zero_le _, Nat.zero_le _⟩ (Nat.le_of_ble_eq_true rfl) k_o h dX5_read_48 (fun x7 z_x7 _ _ h B => ?_)
    refine jr_if_eq (tgt := 59) C (zR z_x7) h dX5_read_51 (by decide) (fun hc51 h => ?_) (fun hc51 h => ?_)
    · refine lv_aload_n C.1 C.2.1 dX5_read_59 rfl (lv_at hl 1 rfl) ?_
      refine gf_X5_35 C B k_a1 dX5_read_60 ?_
      exact jr_iret C B hr hlocks (o_M6 a1 1).1 h dX5_read_63
    · refine jr_ldc (n := -1000007) C q_621 (by decide) dX5_read_54 ?_
      refine lv_goto (tgt := 63) C.1 C.2.1 dX5_read_56 (by decide) ?_
      exact jr_iret C B hr hlocks (jkc rfl) h dX5_read_63
  have hL19 : ∀ (n : Nat) (x4 : Int) (M5 : jM) (H : Heap) (locs : List Loc) (ls : Array Slot), lp_X5_read_19 N o a1 k kx19 n x4 M5 → jR x4 → Hp G M5 s.heap H locs → lv_has ls 3 [(2, .int (jI x4)), (0, .ref (jD G o)), (1, .ref (jD G a1))] → W p l e (rmm 6 151) s m args below meth c H locs 0 0 (MQ below (qI G k) args s 0 0 (gA G)) (F0 m 19 ls []) := by
    intro n
    induction n with
    | zero => intro x4 M5 H locs ls h; exact (show False from h).elim
    | succ n ih19 =>
      intro x4 M5 H locs ls h r_x4 B hl
      have o_M5 := B.2.2
      rw [lp_X5_read_19] at h
      refine lv_iload_n C.1 C.2.1 dX5_read_19 rfl (lv_at hl 0 rfl) ?_
      refine lv_aload_n C.1 C.2.1 dX5_read_20 rfl (lv_at hl 2 rfl) ?_
      refine gf_X5_35 C B k_a1 dX5_read_21 ?_
      refine jr_icmp_ge (tgt := 47) C r_x4 (o_M5 a1 1).1 h dX5_read_24 (by decide) (fun hc24 h => ?_) (fun hc24 h => ?_)
      · refine lv_aload_n C.1 C.2.1 dX5_read_27 rfl (lv_at hl 1 rfl) ?_
        refine lv_aload_n C.1 C.2.1 dX5_read_28 rfl (lv_at hl 2 rfl) ?_
        refine lv_iload_n C.1 C.2.1 dX5_read_29 rfl (lv_at hl 0 rfl) ?_
        refine cl_X3_at C hl.1 B q_564 ⟨Nat.le_of_ble_eq_true rfl, Nat.le_of_ble_eq_true rfl⟩ ⟨Nat.zero_le _, Nat.zero_le _⟩ (Nat.le_of_ble_eq_true rfl) k_a1 r_x4 h dX5_read_30 (fun x8 r_x8 _ _ h B => ?_)
        refine cl_X5_takes C hl.1 B q_569 ⟨Nat.le_of_ble_eq_true rfl, Nat.le_of_ble_eq_true rfl⟩ ⟨Nat.zero_le _, Nat.zero_le _⟩ (Nat.le_of_ble_eq_true rfl) k_o r_x8 h dX5_read_33 (fun x9 M10 z_x9 _ _ h B => ?_)
        have o_M10 := B.2.2
        refine jr_if_ne (tgt := 41) C (zR z_x9) h dX5_read_36 (by decide) (fun hc36 h => ?_) (fun hc36 h => ?_)
        · refine lv_iload_n C.1 C.2.1 dX5_read_39 rfl (lv_at hl 0 rfl) ?_
          exact jr_iret C B hr hlocks r_x4 h dX5_read_40
        · refine jr_iinc (k := 0) (lv' := fun x11 => [(2, .int (jI x11)), (0, .ref (jD G o)), (1, .ref (jD G a1))]) C h hl rfl (by decide) (fun _ => rfl) dX5_read_41 (fun x11 h r_x11 ls hl => ?_)
          refine lv_goto (tgt := 19) C.1 C.2.1 dX5_read_44 (by decide) ?_
          exact ih19 _ _ _ _ _ h r_x11 B (lv_sub hl [0, 1, 2] rfl)
      · exact hkx19 _ _ _ _ h  B (lv_sub hl [1, 2] rfl)
  exact hL19 N _ _ _ _ _ h (jkc rfl) B (lv_sub hl [0, 1, 2] rfl)
theorem cl_X5_read {p : Program} {l : Launch} {e : Env} {R : Room} {s : State} {m : MethodId} {args : Array Value} {below : List Frame} {meth : Method} {c : Code} {H : Heap} {locs : List Loc} {cells slots : Nat} {Q : State → Prop} {cc : ByteArray} {nL : Nat} {own : String} {G : jG} {H0 : Heap} {pc idx : Nat} {ls : Array Slot} {rest : List Value} {N : Nat} {M : jM} {o a1 : Int} {k : Int → jM → Prop} (C : Cx G p s args m c cc nL own) (hl : ls.size = nL) (B : Hp G M H0 H locs) (q1 : Cond.methodLink own idx yX5_read ∈ tb) (hR : (rmm 6 151).frames + 1 ≤ R.frames ∧ 8 + (3 + 11) + (rmm 6 151).locals ≤ R.locals) (hcs : cells ≤ R.cells ∧ slots ≤ R.slots) (hW : (rest.map fun v => v.category).sum ≤ 8) (k_o : jK o = 6) (k_a1 : jK a1 = 4) (h : w_X5_read N M o a1 k) (hdg : decode cc pc = .ok (.invokevirtual idx, 3)) (kk : ∀ (r : Int) (M' : jM), jR r → ∀ (H1 : Heap) (locs1 : List Loc), k r M' → Hp G M' H0 H1 locs1 → W p l e R s m args below meth c H1 locs1 cells slots Q (F0 m (pc + 3) ls (.int (jI r) :: rest))) : W p l e R s m args below meth c H locs cells slots Q (F0 m pc ls (.ref (jD G a1) :: .ref (jD G o) :: rest)) :=
  jr_callI B (jr_runV (o := o) (As := [.ref (jD G a1)]) (n := 1) C hl B (m_X5_read B.2.2 k_o k_a1 h) (jE6 k_o) (by omega) rfl q1 q_560 q_561 q_562 q_5 ⟨by decide, by decide, by decide +kernel⟩ rfl ⟨rfl, rfl⟩ hR hcs rfl hW hdg) (fun r M' H1 locs1 hr hk B1 => kk r M' hr H1 locs1 hk B1)
def lp_X6_dropOldest_9 (o : Int) (kx9 : jM → Prop) : Nat → Int → jM → Prop
  | 0, _, _ => False
  | n + 1, x4, M5 => (if x4 < 4 then (jB x4 4 ∧ (jB (jW (x4 - 1)) 4 ∧ jL (jU M5 (o + 48) (jW (x4 - 1)) (M5 (o + 48) x4)) (fun M11 => (jL (jW (x4 + 1)) (fun x12 => (lp_X6_dropOldest_9 o kx9 n x12 M11)))))) else (kx9 M5))
def w_X6_dropOldest (N : Nat) (M : jM) (o : Int) (k : jM → Prop) : Prop := (jB 0 4 ∧ (jL (M (o + 48) 0) (fun x3 => (lp_X6_dropOldest_9 o (fun (M6 : jM) => (jB 3 4 ∧ jL (jU M6 (o + 48) 3 x3) (fun M7 => (jL (jU M7 o 2 3) (fun M8 => (k M8)))))) N 1 M))))
set_option maxHeartbeats 4000000 in
set_option maxRecDepth 100000 in
theorem m_X6_dropOldest {l : Launch} {G : jG} {N : Nat} {M : jM} {o : Int} {k : jM → Prop} (o_M : jOK M) (k_o : jK o = 7) (h : w_X6_dropOldest N M o k) : Met l yX6_dropOldest (wsG yX6_dropOldest cX6_dropOldest 3 none) (rmm 0 0) (jPc G M [.ref (jD G o)]) (qV G k) 0 0 (gA G) := by
  refine jm_start RX6 rfl (by decide) (Nat.le_of_ble_eq_true rfl) o_M ?_
  intro p e s m args below meth c ls C hr hlocks hl B
  have hl : lv_has ls 3 [(0, .ref (jD G o))] := hl
  unfold w_X6_dropOldest at h
  refine lv_aload_n C.1 C.2.1 dX6_dropOldest_0 rfl (lv_at hl 0 rfl) ?_
  refine gf_X6_16 C B k_o dX6_dropOldest_1 ?_
  refine jr_iconst C dX6_dropOldest_4 ?_
  obtain ⟨g1, h⟩ := h
  refine jr_sald C B 4 (jk1 (ko_X6_1 k_o) rfl) (jk2 (ko_X6_1 k_o) rfl) (jkc rfl) g1 dX6_dropOldest_5 (fun kk2 => ?_)
  refine jr_nmr h kk2 (fun x3 h k_x3 => ?_)
  refine lv_astore_n (lv' := [(1, .ref (jD G x3)), (0, .ref (jD G o))]) C.1 C.2.1 dX6_dropOldest_6 rfl hl (by decide) rfl (fun ls hl => ?_)
  refine jr_iconst C dX6_dropOldest_7 ?_
  refine lv_istore_n (lv' := [(2, .int (jI 1)), (1, .ref (jD G x3)), (0, .ref (jD G o))]) C.1 C.2.1 dX6_dropOldest_8 rfl hl (by decide) rfl (fun ls hl => ?_)
  obtain ⟨kx9, hkx9, h⟩ : ∃ kx9 : jM → Prop, (∀ (M6 : jM) (H : Heap) (locs : List Loc) (ls : Array Slot), kx9 M6 → Hp G M6 s.heap H locs → lv_has ls 3 [(1, .ref (jD G x3)), (0, .ref (jD G o))] → W p l e (rmm 0 0) s m args below meth c H locs 0 0 (MQ below (qV G k) args s 0 0 (gA G)) (F0 m 34 ls [])) ∧ lp_X6_dropOldest_9 o kx9 N 1 M := by
    refine ⟨_, ?_, h⟩
    intro M6 H locs ls h  B hl
    have o_M6 := B.2.2
    refine lv_aload_n C.1 C.2.1 dX6_dropOldest_34 rfl (lv_at hl 1 rfl) ?_
    refine gf_X6_16 C B k_o dX6_dropOldest_35 ?_
    refine jr_iconst C dX6_dropOldest_38 ?_
    refine lv_aload_n C.1 C.2.1 dX6_dropOldest_39 rfl (lv_at hl 0 rfl) ?_
    refine jr_sast C B 4 (jk1 (ko_X6_1 k_o) rfl) (jk2 (ko_X6_1 k_o) rfl) (jkc rfl) k_x3 h dX6_dropOldest_40 (fun M7 _ _ h B => ?_)
    have o_M7 := B.2.2
    refine lv_aload_n C.1 C.2.1 dX6_dropOldest_41 rfl (lv_at hl 1 rfl) ?_
    refine jr_iconst C dX6_dropOldest_42 ?_
    refine pf_X6_20 C B k_o (jkc rfl) h dX6_dropOldest_43 (fun M8 _ _ h B => ?_)
    have o_M8 := B.2.2
    exact jr_vret C B hr hlocks h dX6_dropOldest_46
  have hL9 : ∀ (n : Nat) (x4 : Int) (M5 : jM) (H : Heap) (locs : List Loc) (ls : Array Slot), lp_X6_dropOldest_9 o kx9 n x4 M5 → jR x4 → Hp G M5 s.heap H locs → lv_has ls 3 [(2, .int (jI x4)), (1, .ref (jD G x3)), (0, .ref (jD G o))] → W p l e (rmm 0 0) s m args below meth c H locs 0 0 (MQ below (qV G k) args s 0 0 (gA G)) (F0 m 9 ls []) := by
    intro n
    induction n with
    | zero => intro x4 M5 H locs ls h; exact (show False from h).elim
    | succ n ih9 =>
      intro x4 M5 H locs ls h r_x4 B hl
      have o_M5 := B.2.2
      rw [lp_X6_dropOldest_9] at h
      refine lv_iload_n C.1 C.2.1 dX6_dropOldest_9 rfl (lv_at hl 0 rfl) ?_
      refine jr_iconst C dX6_dropOldest_10 ?_
      refine jr_icmp_ge (tgt := 34) C r_x4 (jkc rfl) h dX6_dropOldest_11 (by decide) (fun hc11 h => ?_) (fun hc11 h => ?_)
      · refine lv_aload_n C.1 C.2.1 dX6_dropOldest_14 rfl (lv_at hl 2 rfl) ?_
        refine gf_X6_16 C B k_o dX6_dropOldest_15 ?_
        refine lv_iload_n C.1 C.2.1 dX6_dropOldest_18 rfl (lv_at hl 0 rfl) ?_
        refine jr_iconst C dX6_dropOldest_19 ?_
        refine jr_isub C dX6_dropOldest_20 ?_
        refine lv_aload_n C.1 C.2.1 dX6_dropOldest_21 rfl (lv_at hl 2 rfl) ?_
        refine gf_X6_16 C B k_o dX6_dropOldest_22 ?_
        refine lv_iload_n C.1 C.2.1 dX6_dropOldest_25 rfl (lv_at hl 0 rfl) ?_
        obtain ⟨g9, h⟩ := h
        refine jr_sald C B 4 (jk1 (ko_X6_1 k_o) rfl) (jk2 (ko_X6_1 k_o) rfl) r_x4 g9 dX6_dropOldest_26 (fun kk10 => ?_)
        refine jr_sast C B 4 (jk1 (ko_X6_1 k_o) rfl) (jk2 (ko_X6_1 k_o) rfl) (jW_R _) kk10 h dX6_dropOldest_27 (fun M11 _ _ h B => ?_)
        have o_M11 := B.2.2
        refine jr_iinc (k := 0) (lv' := fun x12 => [(2, .int (jI x12)), (1, .ref (jD G x3)), (0, .ref (jD G o))]) C h hl rfl (by decide) (fun _ => rfl) dX6_dropOldest_28 (fun x12 h r_x12 ls hl => ?_)
        refine lv_goto (tgt := 9) C.1 C.2.1 dX6_dropOldest_31 (by decide) ?_
        exact ih9 _ _ _ _ _ h r_x12 B (lv_sub hl [0, 1, 2] rfl)
      · exact hkx9 _ _ _ _ h  B (lv_sub hl [1, 2] rfl)
  exact hL9 N _ _ _ _ _ h (jkc rfl) B (lv_sub hl [0, 1, 2] rfl)
theorem cl_X6_dropOldest {p : Program} {l : Launch} {e : Env} {R : Room} {s : State} {m : MethodId} {args : Array Value} {below : List Frame} {meth : Method} {c : Code} {H : Heap} {locs : List Loc} {cells slots : Nat} {Q : State → Prop} {cc : ByteArray} {nL : Nat} {own : String} {G : jG} {H0 : Heap} {pc idx : Nat} {ls : Array Slot} {rest : List Value} {N : Nat} {M : jM} {o : Int} {k : jM → Prop} (C : Cx G p s args m c cc nL own) (hl : ls.size = nL) (B : Hp G M H0 H locs) (q1 : Cond.methodLink own idx yX6_dropOldest ∈ tb) (hR : (rmm 0 0).frames + 1 ≤ R.frames ∧ 8 + (3 + 11) + (rmm 0 0).locals ≤ R.locals) (hcs : cells ≤ R.cells ∧ slots ≤ R.slots) (hW : (rest.map fun v => v.category).sum ≤ 8) (k_o : jK o = 7) (h : w_X6_dropOldest N M o k) (hdg : decode cc pc = .ok (.invokevirtual idx, 3)) (kk : ∀ (M' : jM) (H1 : Heap) (locs1 : List Loc), k M' → Hp G M' H0 H1 locs1 → W p l e R s m args below meth c H1 locs1 cells slots Q (F0 m (pc + 3) ls rest)) : W p l e R s m args below meth c H locs cells slots Q (F0 m pc ls (.ref (jD G o) :: rest)) :=
  jr_callV B (jr_runV (o := o) (As := []) (n := 0) C hl B (m_X6_dropOldest B.2.2 k_o h) (jE7 k_o) (by omega) rfl q1 q_455 qs_6 q_456 q_1 ⟨by decide, by decide, by decide +kernel⟩ rfl ⟨rfl, rfl⟩ hR hcs rfl hW hdg) (fun M' H1 locs1 hk B1 => kk M' H1 locs1 hk B1)
def w_X6_remember (N : Nat) (M : jM) (o : Int) (k : jM → Prop) : Prop := (jL (fun (M2 : jM) => (jB (M2 o 2) 4 ∧ (w_X4_copyState N M2 (M2 (o + 48) (M2 o 2)) (o + 1) (fun M5 => (jL (jU M5 o 2 (jW ((M5 o 2) + 1))) (fun M6 => (k M6))))))) (fun j5_1 => (if (M o 2) < 4 then (j5_1 M) else (w_X6_dropOldest N M o (fun M7 => (j5_1 M7))))))
set_option maxHeartbeats 4000000 in
set_option maxRecDepth 100000 in
theorem m_X6_remember {l : Launch} {G : jG} {N : Nat} {M : jM} {o : Int} {k : jM → Prop} (o_M : jOK M) (k_o : jK o = 7) (h : w_X6_remember N M o k) : Met l yX6_remember (wsG yX6_remember cX6_remember 1 none) (rmm 4 104) (jPc G M [.ref (jD G o)]) (qV G k) 0 0 (gA G) := by
  refine jm_start RX6 rfl (by decide) (Nat.le_of_ble_eq_true rfl) o_M ?_
  intro p e s m args below meth c ls C hr hlocks hl B
  have hl : lv_has ls 1 [(0, .ref (jD G o))] := hl
  unfold w_X6_remember at h
  refine lv_aload_n C.1 C.2.1 dX6_remember_0 rfl (lv_at hl 0 rfl) ?_
  refine gf_X6_20 C B k_o dX6_remember_1 ?_
  refine jr_iconst C dX6_remember_4 ?_
  obtain ⟨j5_1, hj5_1, h⟩ := jx_join (P := fun j5_1 : jM → Prop => ∀ (M2 : jM) (H : Heap) (locs : List Loc) (ls : Array Slot), j5_1 M2 → Hp G M2 s.heap H locs → lv_has ls 1 [(0, .ref (jD G o))] → W p l e (rmm 4 104) s m args below meth c H locs 0 0 (MQ below (qV G k) args s 0 0 (gA G)) (F0 m 12 ls [])) h (by
    intro M2 H locs ls h  B hl
    have o_M2 := B.2.2
    refine lv_aload_n C.1 C.2.1 dX6_remember_12 rfl (lv_at hl 0 rfl) ?_
    refine gf_X6_16 C B k_o dX6_remember_13 ?_
    refine lv_aload_n C.1 C.2.1 dX6_remember_16 rfl (lv_at hl 0 rfl) ?_
    refine gf_X6_20 C B k_o dX6_remember_17 ?_
    obtain ⟨g3, h⟩ := h
    refine jr_sald C B 4 (jk1 (ko_X6_1 k_o) rfl) (jk2 (ko_X6_1 k_o) rfl) (o_M2 o 2).1 g3 dX6_remember_20 (fun kk4 => ?_)
    refine lv_aload_n C.1 C.2.1 dX6_remember_21 rfl (lv_at hl 0 rfl) ?_
    refine gf_X6_12 C B k_o dX6_remember_22 ?_
    refine cl_X4_copyState C hl.1 B q_200 ⟨Nat.le_of_ble_eq_true rfl, Nat.le_of_ble_eq_true rfl⟩ ⟨Nat.zero_le _, Nat.zero_le _⟩ (Nat.le_of_ble_eq_true rfl) kk4 (ko_X6_0 k_o) h dX6_remember_25 (fun M5 _ _ h B => ?_)
    have o_M5 := B.2.2
    refine lv_aload_n C.1 C.2.1 dX6_remember_28 rfl (lv_at hl 0 rfl) ?_
    refine lv_dup C.1 C.2.1 dX6_remember_29 rfl ?_
    refine gf_X6_20 C B k_o dX6_remember_30 ?_
    refine jr_iconst C dX6_remember_33 ?_
    refine jr_iadd C dX6_remember_34 ?_
    refine pf_X6_20 C B k_o (jW_R _) h dX6_remember_35 (fun M6 _ _ h B => ?_)
    have o_M6 := B.2.2
    exact jr_vret C B hr hlocks h dX6_remember_38)
  refine jr_icmp_lt (tgt := 12) C (o_M o 2).1 (jkc rfl) h dX6_remember_5 (by decide) (fun hc5 h => ?_) (fun hc5 h => ?_)
  · exact hj5_1 _ _ _ _ h  B (lv_sub hl [0] rfl)
  · refine lv_aload_n C.1 C.2.1 dX6_remember_8 rfl (lv_at hl 0 rfl) ?_
    refine cl_X6_dropOldest C hl.1 B q_453 ⟨Nat.le_of_ble_eq_true rfl, Nat.le_of_ble_eq_true rfl⟩ ⟨Nat.zero_le _, Nat.zero_le _⟩ (Nat.le_of_ble_eq_true rfl) k_o h dX6_remember_9 (fun M7 _ _ h B => ?_)
    have o_M7 := B.2.2
    exact hj5_1 _ _ _ _ h  B (lv_sub hl [0] rfl)
theorem cl_X6_remember {p : Program} {l : Launch} {e : Env} {R : Room} {s : State} {m : MethodId} {args : Array Value} {below : List Frame} {meth : Method} {c : Code} {H : Heap} {locs : List Loc} {cells slots : Nat} {Q : State → Prop} {cc : ByteArray} {nL : Nat} {own : String} {G : jG} {H0 : Heap} {pc idx : Nat} {ls : Array Slot} {rest : List Value} {N : Nat} {M : jM} {o : Int} {k : jM → Prop} (C : Cx G p s args m c cc nL own) (hl : ls.size = nL) (B : Hp G M H0 H locs) (q1 : Cond.methodLink own idx yX6_remember ∈ tb) (hR : (rmm 4 104).frames + 1 ≤ R.frames ∧ 8 + (1 + 11) + (rmm 4 104).locals ≤ R.locals) (hcs : cells ≤ R.cells ∧ slots ≤ R.slots) (hW : (rest.map fun v => v.category).sum ≤ 8) (k_o : jK o = 7) (h : w_X6_remember N M o k) (hdg : decode cc pc = .ok (.invokevirtual idx, 3)) (kk : ∀ (M' : jM) (H1 : Heap) (locs1 : List Loc), k M' → Hp G M' H0 H1 locs1 → W p l e R s m args below meth c H1 locs1 cells slots Q (F0 m (pc + 3) ls rest)) : W p l e R s m args below meth c H locs cells slots Q (F0 m pc ls (.ref (jD G o) :: rest)) :=
  jr_callV B (jr_runV (o := o) (As := []) (n := 0) C hl B (m_X6_remember B.2.2 k_o h) (jE7 k_o) (by omega) rfl q1 q_451 qs_5 q_452 q_1 ⟨by decide, by decide, by decide +kernel⟩ rfl ⟨rfl, rfl⟩ hR hcs rfl hW hdg) (fun M' H1 locs1 hk B1 => kk M' H1 locs1 hk B1)
def w_X6_create (N : Nat) (M : jM) (o : Int) (a1 : Int) (k : Int → jM → Prop) : Prop := (w_X6_isBelow a1 100 (fun x1 => (if x1 = 0 then (k (-1000002) M) else (w_X4_find N M (o + 1) a1 (fun x2 => (if x2 < 0 then (if (M (o + 1) 1) < 10 then (w_X6_remember N M o (fun M3 => (w_X4_addRecord N M3 (o + 1) a1 (fun M4 => (k (M4 (o + 1) 1) M4))))) else (k (-1000004) M)) else (k (-1000005) M)))))))
set_option maxHeartbeats 4000000 in
set_option maxRecDepth 100000 in
theorem m_X6_create {l : Launch} {G : jG} {N : Nat} {M : jM} {o a1 : Int} {k : Int → jM → Prop} (o_M : jOK M) (k_o : jK o = 7) (r_a1 : jR a1) (h : w_X6_create N M o a1 k) : Met l yX6_create (wsG yX6_create cX6_create 2 (some .int)) (rmm 5 124) (jPc G M [.ref (jD G o), .int (jI a1)]) (qI G k) 0 0 (gA G) := by
  refine jm_start RX6 rfl (by decide) (Nat.le_of_ble_eq_true rfl) o_M ?_
  intro p e s m args below meth c ls C hr hlocks hl B
  have hl : lv_has ls 2 [(0, .ref (jD G o)), (1, .int (jI a1))] := hl
  unfold w_X6_create at h
  refine lv_iload_n C.1 C.2.1 dX6_create_0 rfl (lv_at hl 1 rfl) ?_
  refine jr_bipush C dX6_create_1 (by decide) ?_
  refine cl_X6_isBelow C hl.1 B q_233 ⟨Nat.le_of_ble_eq_true rfl, Nat.le_of_ble_eq_true rfl⟩ ⟨Nat.zero_le _, Nat.zero_le _⟩ (Nat.le_of_ble_eq_true rfl) r_a1 (jkc rfl) h dX6_create_3 (fun x1 z_x1 _ _ h B => ?_)
  refine jr_if_ne (tgt := 12) C (zR z_x1) h dX6_create_6 (by decide) (fun hc6 h => ?_) (fun hc6 h => ?_)
  · refine jr_ldc (n := -1000002) C q_237 (by decide) dX6_create_9 ?_
    exact jr_iret C B hr hlocks (jkc rfl) h dX6_create_11
  · refine lv_aload_n C.1 C.2.1 dX6_create_12 rfl (lv_at hl 0 rfl) ?_
    refine gf_X6_12 C B k_o dX6_create_13 ?_
    refine lv_iload_n C.1 C.2.1 dX6_create_16 rfl (lv_at hl 1 rfl) ?_
    refine cl_X4_find C hl.1 B q_271 ⟨Nat.le_of_ble_eq_true rfl, Nat.le_of_ble_eq_true rfl⟩ ⟨Nat.zero_le _, Nat.zero_le _⟩ (Nat.le_of_ble_eq_true rfl) (ko_X6_0 k_o) r_a1 h dX6_create_17 (fun x2 n_x2 _ _ h B => ?_)
    refine jr_ifnull (tgt := 26) C h dX6_create_20 (by decide) (fun hc20 h => ?_) (fun hc20 h => ?_)
    · refine lv_aload_n C.1 C.2.1 dX6_create_26 rfl (lv_at hl 0 rfl) ?_
      refine gf_X6_12 C B k_o dX6_create_27 ?_
      refine gf_X6_67 C B (ko_X6_0 k_o) dX6_create_30 ?_
      refine jr_bipush C dX6_create_33 (by decide) ?_
      refine jr_icmp_lt (tgt := 41) C (o_M (o + 1) 1).1 (jkc rfl) h dX6_create_35 (by decide) (fun hc35 h => ?_) (fun hc35 h => ?_)
      · refine lv_aload_n C.1 C.2.1 dX6_create_41 rfl (lv_at hl 0 rfl) ?_
        refine cl_X6_remember C hl.1 B q_449 ⟨Nat.le_of_ble_eq_true rfl, Nat.le_of_ble_eq_true rfl⟩ ⟨Nat.zero_le _, Nat.zero_le _⟩ (Nat.le_of_ble_eq_true rfl) k_o h dX6_create_42 (fun M3 _ _ h B => ?_)
        have o_M3 := B.2.2
        refine lv_aload_n C.1 C.2.1 dX6_create_45 rfl (lv_at hl 0 rfl) ?_
        refine gf_X6_12 C B k_o dX6_create_46 ?_
        refine lv_iload_n C.1 C.2.1 dX6_create_49 rfl (lv_at hl 1 rfl) ?_
        refine cl_X4_addRecord C hl.1 B q_457 ⟨Nat.le_of_ble_eq_true rfl, Nat.le_of_ble_eq_true rfl⟩ ⟨Nat.zero_le _, Nat.zero_le _⟩ (Nat.le_of_ble_eq_true rfl) (ko_X6_0 k_o) r_a1 h dX6_create_50 (fun M4 _ _ h B => ?_)
        have o_M4 := B.2.2
        refine lv_aload_n C.1 C.2.1 dX6_create_53 rfl (lv_at hl 0 rfl) ?_
        refine gf_X6_12 C B k_o dX6_create_54 ?_
        refine gf_X6_67 C B (ko_X6_0 k_o) dX6_create_57 ?_
        exact jr_iret C B hr hlocks (o_M4 (o + 1) 1).1 h dX6_create_60
      · refine jr_ldc (n := -1000004) C q_448 (by decide) dX6_create_38 ?_
        exact jr_iret C B hr hlocks (jkc rfl) h dX6_create_40
    · have k_x2 : jK x2 = 2 := n_x2.resolve_left hc20
      refine jr_ldc (n := -1000005) C q_447 (by decide) dX6_create_23 ?_
      exact jr_iret C B hr hlocks (jkc rfl) h dX6_create_25
theorem cl_X6_create {p : Program} {l : Launch} {e : Env} {R : Room} {s : State} {m : MethodId} {args : Array Value} {below : List Frame} {meth : Method} {c : Code} {H : Heap} {locs : List Loc} {cells slots : Nat} {Q : State → Prop} {cc : ByteArray} {nL : Nat} {own : String} {G : jG} {H0 : Heap} {pc idx : Nat} {ls : Array Slot} {rest : List Value} {N : Nat} {M : jM} {o a1 : Int} {k : Int → jM → Prop} (C : Cx G p s args m c cc nL own) (hl : ls.size = nL) (B : Hp G M H0 H locs) (q1 : Cond.methodLink own idx yX6_create ∈ tb) (hR : (rmm 5 124).frames + 1 ≤ R.frames ∧ 8 + (2 + 11) + (rmm 5 124).locals ≤ R.locals) (hcs : cells ≤ R.cells ∧ slots ≤ R.slots) (hW : (rest.map fun v => v.category).sum ≤ 8) (k_o : jK o = 7) (r_a1 : jR a1) (h : w_X6_create N M o a1 k) (hdg : decode cc pc = .ok (.invokevirtual idx, 3)) (kk : ∀ (r : Int) (M' : jM), jR r → ∀ (H1 : Heap) (locs1 : List Loc), k r M' → Hp G M' H0 H1 locs1 → W p l e R s m args below meth c H1 locs1 cells slots Q (F0 m (pc + 3) ls (.int (jI r) :: rest))) : W p l e R s m args below meth c H locs cells slots Q (F0 m pc ls (.int (jI a1) :: .ref (jD G o) :: rest)) :=
  jr_callI B (jr_runV (o := o) (As := [.int (jI a1)]) (n := 1) C hl B (m_X6_create B.2.2 k_o r_a1 h) (jE7 k_o) (by omega) rfl q1 q_444 q_445 q_446 q_1 ⟨by decide, by decide, by decide +kernel⟩ rfl ⟨rfl, rfl⟩ hR hcs rfl hW hdg) (fun r M' H1 locs1 hr hk B1 => kk r M' hr H1 locs1 hk B1)
def w_X6_delete (N : Nat) (M : jM) (o : Int) (a1 : Int) (a2 : Int) (k : Int → jM → Prop) : Prop := (w_X4_find N M (o + 1) a2 (fun x1 => (w_X6_isBelow a1 4 (fun x2 => (if x2 = 0 then (k (-1000001) M) else (if x1 < 0 then (k (-1000001) M) else (w_X1_isOpenTo M x1 a1 (fun x3 => (if x3 = 0 then (k (-1000006) M) else (w_X6_remember N M o (fun M4 => (w_X4_dropRecord N M4 (o + 1) a2 (fun M5 => (k (M5 (o + 1) 1) M5))))))))))))))
set_option maxHeartbeats 4000000 in
set_option maxRecDepth 100000 in
theorem m_X6_delete {l : Launch} {G : jG} {N : Nat} {M : jM} {o a1 a2 : Int} {k : Int → jM → Prop} (o_M : jOK M) (k_o : jK o = 7) (r_a1 : jR a1) (r_a2 : jR a2) (h : w_X6_delete N M o a1 a2 k) : Met l yX6_delete (wsG yX6_delete cX6_delete 4 (some .int)) (rmm 5 124) (jPc G M [.ref (jD G o), .int (jI a1), .int (jI a2)]) (qI G k) 0 0 (gA G) := by
  refine jm_start RX6 rfl (by decide) (Nat.le_of_ble_eq_true rfl) o_M ?_
  intro p e s m args below meth c ls C hr hlocks hl B
  have hl : lv_has ls 4 [(0, .ref (jD G o)), (1, .int (jI a1)), (2, .int (jI a2))] := hl
  unfold w_X6_delete at h
  refine lv_aload_n C.1 C.2.1 dX6_delete_0 rfl (lv_at hl 0 rfl) ?_
  refine gf_X6_12 C B k_o dX6_delete_1 ?_
  refine lv_iload_n C.1 C.2.1 dX6_delete_4 rfl (lv_at hl 2 rfl) ?_
  refine cl_X4_find C hl.1 B q_271 ⟨Nat.le_of_ble_eq_true rfl, Nat.le_of_ble_eq_true rfl⟩ ⟨Nat.zero_le _, Nat.zero_le _⟩ (Nat.le_of_ble_eq_true rfl) (ko_X6_0 k_o) r_a2 h dX6_delete_5 (fun x1 n_x1 _ _ h B => ?_)
  refine jr_astore_nN (lv' := [(3, jN G x1), (0, .ref (jD G o)), (1, .int (jI a1)), (2, .int (jI a2))]) C dX6_delete_8 rfl hl (by decide) rfl (fun ls hl => ?_)
  refine lv_iload_n C.1 C.2.1 dX6_delete_9 rfl (lv_at hl 2 rfl) ?_
  refine jr_iconst C dX6_delete_10 ?_
  refine cl_X6_isBelow C hl.1 B q_233 ⟨Nat.le_of_ble_eq_true rfl, Nat.le_of_ble_eq_true rfl⟩ ⟨Nat.zero_le _, Nat.zero_le _⟩ (Nat.le_of_ble_eq_true rfl) r_a1 (jkc rfl) h dX6_delete_11 (fun x2 z_x2 _ _ h B => ?_)
  refine jr_if_eq (tgt := 21) C (zR z_x2) h dX6_delete_14 (by decide) (fun hc14 h => ?_) (fun hc14 h => ?_)
  · refine jr_ldc (n := -1000001) C q_236 (by decide) dX6_delete_21 ?_
    exact jr_iret C B hr hlocks (jkc rfl) h dX6_delete_23
  · refine jr_aload_nN C dX6_delete_17 rfl (lv_at hl 0 rfl) ?_
    refine jr_ifnonnull (tgt := 24) C h dX6_delete_18 (by decide) (fun hc18 h => ?_) (fun hc18 h => ?_)
    · refine jr_ldc (n := -1000001) C q_236 (by decide) dX6_delete_21 ?_
      exact jr_iret C B hr hlocks (jkc rfl) h dX6_delete_23
    · have k_x1 : jK x1 = 2 := n_x1.resolve_left hc18
      rw [jN_ref hc18] at hl
      refine lv_aload_n C.1 C.2.1 dX6_delete_24 rfl (lv_at hl 0 rfl) ?_
      refine lv_iload_n C.1 C.2.1 dX6_delete_25 rfl (lv_at hl 2 rfl) ?_
      refine cl_X1_isOpenTo C hl.1 B q_482 ⟨Nat.le_of_ble_eq_true rfl, Nat.le_of_ble_eq_true rfl⟩ ⟨Nat.zero_le _, Nat.zero_le _⟩ (Nat.le_of_ble_eq_true rfl) k_x1 r_a1 h dX6_delete_26 (fun x3 z_x3 _ _ h B => ?_)
      refine jr_if_ne (tgt := 35) C (zR z_x3) h dX6_delete_29 (by decide) (fun hc29 h => ?_) (fun hc29 h => ?_)
      · refine jr_ldc (n := -1000006) C q_486 (by decide) dX6_delete_32 ?_
        exact jr_iret C B hr hlocks (jkc rfl) h dX6_delete_34
      · refine lv_aload_n C.1 C.2.1 dX6_delete_35 rfl (lv_at hl 1 rfl) ?_
        refine cl_X6_remember C hl.1 B q_449 ⟨Nat.le_of_ble_eq_true rfl, Nat.le_of_ble_eq_true rfl⟩ ⟨Nat.zero_le _, Nat.zero_le _⟩ (Nat.le_of_ble_eq_true rfl) k_o h dX6_delete_36 (fun M4 _ _ h B => ?_)
        have o_M4 := B.2.2
        refine lv_aload_n C.1 C.2.1 dX6_delete_39 rfl (lv_at hl 1 rfl) ?_
        refine gf_X6_12 C B k_o dX6_delete_40 ?_
        refine lv_iload_n C.1 C.2.1 dX6_delete_43 rfl (lv_at hl 3 rfl) ?_
        refine cl_X4_dropRecord C hl.1 B q_663 ⟨Nat.le_of_ble_eq_true rfl, Nat.le_of_ble_eq_true rfl⟩ ⟨Nat.zero_le _, Nat.zero_le _⟩ (Nat.le_of_ble_eq_true rfl) (ko_X6_0 k_o) r_a2 h dX6_delete_44 (fun M5 _ _ h B => ?_)
        have o_M5 := B.2.2
        refine lv_aload_n C.1 C.2.1 dX6_delete_47 rfl (lv_at hl 1 rfl) ?_
        refine gf_X6_12 C B k_o dX6_delete_48 ?_
        refine gf_X6_67 C B (ko_X6_0 k_o) dX6_delete_51 ?_
        exact jr_iret C B hr hlocks (o_M5 (o + 1) 1).1 h dX6_delete_54
theorem cl_X6_delete {p : Program} {l : Launch} {e : Env} {R : Room} {s : State} {m : MethodId} {args : Array Value} {below : List Frame} {meth : Method} {c : Code} {H : Heap} {locs : List Loc} {cells slots : Nat} {Q : State → Prop} {cc : ByteArray} {nL : Nat} {own : String} {G : jG} {H0 : Heap} {pc idx : Nat} {ls : Array Slot} {rest : List Value} {N : Nat} {M : jM} {o a1 a2 : Int} {k : Int → jM → Prop} (C : Cx G p s args m c cc nL own) (hl : ls.size = nL) (B : Hp G M H0 H locs) (q1 : Cond.methodLink own idx yX6_delete ∈ tb) (hR : (rmm 5 124).frames + 1 ≤ R.frames ∧ 8 + (4 + 11) + (rmm 5 124).locals ≤ R.locals) (hcs : cells ≤ R.cells ∧ slots ≤ R.slots) (hW : (rest.map fun v => v.category).sum ≤ 8) (k_o : jK o = 7) (r_a1 : jR a1) (r_a2 : jR a2) (h : w_X6_delete N M o a1 a2 k) (hdg : decode cc pc = .ok (.invokevirtual idx, 3)) (kk : ∀ (r : Int) (M' : jM), jR r → ∀ (H1 : Heap) (locs1 : List Loc), k r M' → Hp G M' H0 H1 locs1 → W p l e R s m args below meth c H1 locs1 cells slots Q (F0 m (pc + 3) ls (.int (jI r) :: rest))) : W p l e R s m args below meth c H locs cells slots Q (F0 m pc ls (.int (jI a2) :: .int (jI a1) :: .ref (jD G o) :: rest)) :=
  jr_callI B (jr_runV (o := o) (As := [.int (jI a1), .int (jI a2)]) (n := 2) C hl B (m_X6_delete B.2.2 k_o r_a1 r_a2 h) (jE7 k_o) (by omega) rfl q1 q_660 q_661 q_662 q_1 ⟨by decide, by decide, by decide +kernel⟩ rfl ⟨rfl, rfl⟩ hR hcs rfl hW hdg) (fun r M' H1 locs1 hr hk B1 => kk r M' hr H1 locs1 hk B1)
def w_X6_lock (N : Nat) (M : jM) (o : Int) (a1 : Int) (a2 : Int) (k : Int → jM → Prop) : Prop := (w_X4_find N M (o + 1) a2 (fun x1 => (w_X6_isBelow a1 4 (fun x2 => (if x2 = 0 then (k (-1000001) M) else (if x1 < 0 then (k (-1000001) M) else (w_X1_isOpenTo M x1 a1 (fun x3 => (if x3 = 0 then (k (-1000006) M) else (w_X6_remember N M o (fun M4 => (jL (jU M4 x1 1 a1) (fun M5 => (w_X4_lockCount N M5 (o + 1) a1 (fun x6 => (k x6 M5))))))))))))))))
set_option maxHeartbeats 4000000 in
set_option maxRecDepth 100000 in
theorem m_X6_lock {l : Launch} {G : jG} {N : Nat} {M : jM} {o a1 a2 : Int} {k : Int → jM → Prop} (o_M : jOK M) (k_o : jK o = 7) (r_a1 : jR a1) (r_a2 : jR a2) (h : w_X6_lock N M o a1 a2 k) : Met l yX6_lock (wsG yX6_lock cX6_lock 4 (some .int)) (rmm 5 124) (jPc G M [.ref (jD G o), .int (jI a1), .int (jI a2)]) (qI G k) 0 0 (gA G) := by
  refine jm_start RX6 rfl (by decide) (Nat.le_of_ble_eq_true rfl) o_M ?_
  intro p e s m args below meth c ls C hr hlocks hl B
  have hl : lv_has ls 4 [(0, .ref (jD G o)), (1, .int (jI a1)), (2, .int (jI a2))] := hl
  unfold w_X6_lock at h
  refine lv_aload_n C.1 C.2.1 dX6_lock_0 rfl (lv_at hl 0 rfl) ?_
  refine gf_X6_12 C B k_o dX6_lock_1 ?_
  refine lv_iload_n C.1 C.2.1 dX6_lock_4 rfl (lv_at hl 2 rfl) ?_
  refine cl_X4_find C hl.1 B q_271 ⟨Nat.le_of_ble_eq_true rfl, Nat.le_of_ble_eq_true rfl⟩ ⟨Nat.zero_le _, Nat.zero_le _⟩ (Nat.le_of_ble_eq_true rfl) (ko_X6_0 k_o) r_a2 h dX6_lock_5 (fun x1 n_x1 _ _ h B => ?_)
  refine jr_astore_nN (lv' := [(3, jN G x1), (0, .ref (jD G o)), (1, .int (jI a1)), (2, .int (jI a2))]) C dX6_lock_8 rfl hl (by decide) rfl (fun ls hl => ?_)
  refine lv_iload_n C.1 C.2.1 dX6_lock_9 rfl (lv_at hl 2 rfl) ?_
  refine jr_iconst C dX6_lock_10 ?_
  refine cl_X6_isBelow C hl.1 B q_233 ⟨Nat.le_of_ble_eq_true rfl, Nat.le_of_ble_eq_true rfl⟩ ⟨Nat.zero_le _, Nat.zero_le _⟩ (Nat.le_of_ble_eq_true rfl) r_a1 (jkc rfl) h dX6_lock_11 (fun x2 z_x2 _ _ h B => ?_)
  refine jr_if_eq (tgt := 21) C (zR z_x2) h dX6_lock_14 (by decide) (fun hc14 h => ?_) (fun hc14 h => ?_)
  · refine jr_ldc (n := -1000001) C q_236 (by decide) dX6_lock_21 ?_
    exact jr_iret C B hr hlocks (jkc rfl) h dX6_lock_23
  · refine jr_aload_nN C dX6_lock_17 rfl (lv_at hl 0 rfl) ?_
    refine jr_ifnonnull (tgt := 24) C h dX6_lock_18 (by decide) (fun hc18 h => ?_) (fun hc18 h => ?_)
    · refine jr_ldc (n := -1000001) C q_236 (by decide) dX6_lock_21 ?_
      exact jr_iret C B hr hlocks (jkc rfl) h dX6_lock_23
    · have k_x1 : jK x1 = 2 := n_x1.resolve_left hc18
      rw [jN_ref hc18] at hl
      refine lv_aload_n C.1 C.2.1 dX6_lock_24 rfl (lv_at hl 0 rfl) ?_
      refine lv_iload_n C.1 C.2.1 dX6_lock_25 rfl (lv_at hl 2 rfl) ?_
      refine cl_X1_isOpenTo C hl.1 B q_482 ⟨Nat.le_of_ble_eq_true rfl, Nat.le_of_ble_eq_true rfl⟩ ⟨Nat.zero_le _, Nat.zero_le _⟩ (Nat.le_of_ble_eq_true rfl) k_x1 r_a1 h dX6_lock_26 (fun x3 z_x3 _ _ h B => ?_)
      refine jr_if_ne (tgt := 35) C (zR z_x3) h dX6_lock_29 (by decide) (fun hc29 h => ?_) (fun hc29 h => ?_)
      · refine jr_ldc (n := -1000006) C q_486 (by decide) dX6_lock_32 ?_
        exact jr_iret C B hr hlocks (jkc rfl) h dX6_lock_34
      · refine lv_aload_n C.1 C.2.1 dX6_lock_35 rfl (lv_at hl 1 rfl) ?_
        refine cl_X6_remember C hl.1 B q_449 ⟨Nat.le_of_ble_eq_true rfl, Nat.le_of_ble_eq_true rfl⟩ ⟨Nat.zero_le _, Nat.zero_le _⟩ (Nat.le_of_ble_eq_true rfl) k_o h dX6_lock_36 (fun M4 _ _ h B => ?_)
        have o_M4 := B.2.2
        refine lv_aload_n C.1 C.2.1 dX6_lock_39 rfl (lv_at hl 0 rfl) ?_
        refine lv_iload_n C.1 C.2.1 dX6_lock_40 rfl (lv_at hl 2 rfl) ?_
        refine pf_X6_88 C B k_x1 r_a1 h dX6_lock_41 (fun M5 _ _ h B => ?_)
        have o_M5 := B.2.2
        refine lv_aload_n C.1 C.2.1 dX6_lock_44 rfl (lv_at hl 1 rfl) ?_
        refine gf_X6_12 C B k_o dX6_lock_45 ?_
        refine lv_iload_n C.1 C.2.1 dX6_lock_48 rfl (lv_at hl 2 rfl) ?_
        refine cl_X4_lockCount C hl.1 B q_651 ⟨Nat.le_of_ble_eq_true rfl, Nat.le_of_ble_eq_true rfl⟩ ⟨Nat.zero_le _, Nat.zero_le _⟩ (Nat.le_of_ble_eq_true rfl) (ko_X6_0 k_o) r_a1 h dX6_lock_49 (fun x6 r_x6 _ _ h B => ?_)
        exact jr_iret C B hr hlocks r_x6 h dX6_lock_52
theorem cl_X6_lock {p : Program} {l : Launch} {e : Env} {R : Room} {s : State} {m : MethodId} {args : Array Value} {below : List Frame} {meth : Method} {c : Code} {H : Heap} {locs : List Loc} {cells slots : Nat} {Q : State → Prop} {cc : ByteArray} {nL : Nat} {own : String} {G : jG} {H0 : Heap} {pc idx : Nat} {ls : Array Slot} {rest : List Value} {N : Nat} {M : jM} {o a1 a2 : Int} {k : Int → jM → Prop} (C : Cx G p s args m c cc nL own) (hl : ls.size = nL) (B : Hp G M H0 H locs) (q1 : Cond.methodLink own idx yX6_lock ∈ tb) (hR : (rmm 5 124).frames + 1 ≤ R.frames ∧ 8 + (4 + 11) + (rmm 5 124).locals ≤ R.locals) (hcs : cells ≤ R.cells ∧ slots ≤ R.slots) (hW : (rest.map fun v => v.category).sum ≤ 8) (k_o : jK o = 7) (r_a1 : jR a1) (r_a2 : jR a2) (h : w_X6_lock N M o a1 a2 k) (hdg : decode cc pc = .ok (.invokevirtual idx, 3)) (kk : ∀ (r : Int) (M' : jM), jR r → ∀ (H1 : Heap) (locs1 : List Loc), k r M' → Hp G M' H0 H1 locs1 → W p l e R s m args below meth c H1 locs1 cells slots Q (F0 m (pc + 3) ls (.int (jI r) :: rest))) : W p l e R s m args below meth c H locs cells slots Q (F0 m pc ls (.int (jI a2) :: .int (jI a1) :: .ref (jD G o) :: rest)) :=
  jr_callI B (jr_runV (o := o) (As := [.int (jI a1), .int (jI a2)]) (n := 2) C hl B (m_X6_lock B.2.2 k_o r_a1 r_a2 h) (jE7 k_o) (by omega) rfl q1 q_648 q_649 q_650 q_1 ⟨by decide, by decide, by decide +kernel⟩ rfl ⟨rfl, rfl⟩ hR hcs rfl hW hdg) (fun r M' H1 locs1 hr hk B1 => kk r M' hr H1 locs1 hk B1)
