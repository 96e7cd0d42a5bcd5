def w_X7_isIn (M : jM) (o : Int) (a1 : Int) (a2 : Int) (k : Int → Prop) : Prop := (jB (jW ((jW (23 + (jW (4 * a1)))) + (jDiv a2 30))) 1115 ∧ (if (jAnd (jShr (M (o + 1) (jW ((jW (23 + (jW (4 * a1)))) + (jDiv a2 30)))) (jRem a2 30)) 1) = 1 then (k 1) else (k 0)))
set_option maxHeartbeats 4000000 in
set_option maxRecDepth 100000 in
theorem m_X7_isIn {l : Launch} {G : jG} {M : jM} {o a1 a2 : Int} {k : Int → Prop} (o_M : jOK M) (k_o : jK o = 8) (r_a1 : jR a1) (r_a2 : jR a2) (h : w_X7_isIn M o a1 a2 k) : Met l yX7_isIn (wsG yX7_isIn cX7_isIn 3 (some .boolean)) (rmm 0 0) (jPc G M [.ref (jD G o), .int (jI a1), .int (jI a2)]) (qZ G (fun r M' => M' = M ∧ k r)) 0 0 (gA G) := by
  refine jm_start RX7 rfl (by decide) (Nat.le_of_ble_eq_true rfl) o_M ?_
  intro p e s m args below meth c ls C hr hlocks hl B
  have hl : lv_has ls 3 [(0, .ref (jD G o)), (1, .int (jI a1)), (2, .int (jI a2))] := hl
  unfold w_X7_isIn at h
  refine lv_aload_n C.1 C.2.1 dX7_isIn_0 rfl (lv_at hl 0 rfl) ?_
  refine gf_X7_7 C B k_o dX7_isIn_1 ?_
  refine jr_bipush C dX7_isIn_4 (by decide) ?_
  refine jr_iconst C dX7_isIn_6 ?_
  refine lv_iload_n C.1 C.2.1 dX7_isIn_7 rfl (lv_at hl 1 rfl) ?_
  refine jr_imul C dX7_isIn_8 ?_
  refine jr_iadd C dX7_isIn_9 ?_
  refine lv_iload_n C.1 C.2.1 dX7_isIn_10 rfl (lv_at hl 2 rfl) ?_
  refine jr_bipush C dX7_isIn_11 (by decide) ?_
  refine jr_idiv C (by decide) dX7_isIn_13 ?_
  refine jr_iadd C dX7_isIn_14 ?_
  obtain ⟨g1, h⟩ := h
  refine jr_iald C B 1115 (jk1 (ko_X7_0 k_o) rfl) (jk2 (ko_X7_0 k_o) rfl) (jW_R _) g1 dX7_isIn_15 ?_
  refine lv_iload_n C.1 C.2.1 dX7_isIn_16 rfl (lv_at hl 2 rfl) ?_
  refine jr_bipush C dX7_isIn_17 (by decide) ?_
  refine jr_irem C (by decide) dX7_isIn_19 ?_
  refine jr_ishr C dX7_isIn_20 ?_
  refine jr_iconst C dX7_isIn_21 ?_
  refine jr_iand C dX7_isIn_22 ?_
  refine jr_iconst C dX7_isIn_23 ?_
  refine jr_icmp_ne (tgt := 31) C (jAnd_R _ _) (jkc rfl) h dX7_isIn_24 (by decide) (fun hc24 h => ?_) (fun hc24 h => ?_)
  · refine jr_iconst C dX7_isIn_27 ?_
    refine lv_goto (tgt := 32) C.1 C.2.1 dX7_isIn_28 (by decide) ?_
    exact jr_zret C B hr hlocks (Or.inr rfl) ⟨rfl, h⟩ dX7_isIn_32
  · refine jr_iconst C dX7_isIn_31 ?_
    exact jr_zret C B hr hlocks (Or.inl rfl) ⟨rfl, h⟩ dX7_isIn_32
theorem cl_X7_isIn {p : Program} {l : Launch} {e : Env} {R : Room} {s : State} {m : MethodId} {args : Array Value} {below : List Frame} {meth : Method} {c : Code} {H : Heap} {locs : List Loc} {cells slots : Nat} {Q : State → Prop} {cc : ByteArray} {nL : Nat} {own : String} {G : jG} {H0 : Heap} {pc idx : Nat} {ls : Array Slot} {rest : List Value} {M : jM} {o a1 a2 : Int} {k : Int → Prop} (C : Cx G p s args m c cc nL own) (hl : ls.size = nL) (B : Hp G M H0 H locs) (q1 : Cond.methodLink own idx yX7_isIn ∈ tb) (hR : (rmm 0 0).frames + 1 ≤ R.frames ∧ 8 + (3 + 11) + (rmm 0 0).locals ≤ R.locals) (hcs : cells ≤ R.cells ∧ slots ≤ R.slots) (hW : (rest.map fun v => v.category).sum ≤ 8) (k_o : jK o = 8) (r_a1 : jR a1) (r_a2 : jR a2) (h : w_X7_isIn M o a1 a2 k) (hdg : decode cc pc = .ok (.invokevirtual idx, 3)) (kk : ∀ (r : Int), (r = 0 ∨ r = 1) → ∀ (H1 : Heap) (locs1 : List Loc), k r → Hp G M H0 H1 locs1 → W p l e R s m args below meth c H1 locs1 cells slots Q (F0 m (pc + 3) ls (.int (jI r) :: rest))) : W p l e R s m args below meth c H locs cells slots Q (F0 m pc ls (.int (jI a2) :: .int (jI a1) :: .ref (jD G o) :: rest)) :=
  jr_callZ B (jr_runV (o := o) (As := [.int (jI a1), .int (jI a2)]) (n := 2) C hl B (m_X7_isIn B.2.2 k_o r_a1 r_a2 h) (jE8 k_o) (by omega) rfl q1 q_1023 qs_68 q_1024 q_8 ⟨by decide, by decide, by decide +kernel⟩ rfl ⟨rfl, rfl⟩ hR hcs rfl hW hdg) (fun r M' H1 locs1 hr hk B1 => by obtain ⟨rfl, hk⟩ := hk; exact kk r hr H1 locs1 hk B1)
def lp_X7_sizeOf_4 (o : Int) (a1 : Int) (M : jM) (kx4 : Int → Prop) : Nat → Int → Int → Prop
  | 0, _, _ => False
  | n + 1, x1, x2 => (if x2 < 100 then (w_X7_isIn M o a1 x2 (fun x4 => (if x4 = 0 then (jL (jW (x1 + 0)) (fun x5 => (jL (jW (x2 + 1)) (fun x6 => (lp_X7_sizeOf_4 o a1 M kx4 n x5 x6))))) else (jL (jW (x1 + 1)) (fun x7 => (jL (jW (x2 + 1)) (fun x8 => (lp_X7_sizeOf_4 o a1 M kx4 n x7 x8)))))))) else (kx4 x1))
def w_X7_sizeOf (N : Nat) (M : jM) (o : Int) (a1 : Int) (k : Int → Prop) : Prop := (lp_X7_sizeOf_4 o a1 M (fun (x3 : Int) => (k x3)) N 0 0)
set_option maxHeartbeats 4000000 in
set_option maxRecDepth 100000 in
theorem m_X7_sizeOf {l : Launch} {G : jG} {N : Nat} {M : jM} {o a1 : Int} {k : Int → Prop} (o_M : jOK M) (k_o : jK o = 8) (r_a1 : jR a1) (h : w_X7_sizeOf N M o a1 k) : Met l yX7_sizeOf (wsG yX7_sizeOf cX7_sizeOf 4 (some .int)) (rmm 1 22) (jPc G M [.ref (jD G o), .int (jI a1)]) (qI G (fun r M' => M' = M ∧ k r)) 0 0 (gA G) := by
  refine jm_start RX7 rfl (by decide) (Nat.le_of_ble_eq_true rfl) o_M ?_
  intro p e s m args below meth c ls C hr hlocks hl B
  have hl : lv_has ls 4 [(0, .ref (jD G o)), (1, .int (jI a1))] := hl
  unfold w_X7_sizeOf at h
  refine jr_iconst C dX7_sizeOf_0 ?_
  refine lv_istore_n (lv' := [(2, .int (jI 0)), (0, .ref (jD G o)), (1, .int (jI a1))]) C.1 C.2.1 dX7_sizeOf_1 rfl hl (by decide) rfl (fun ls hl => ?_)
  refine jr_iconst C dX7_sizeOf_2 ?_
  refine lv_istore_n (lv' := [(3, .int (jI 0)), (2, .int (jI 0)), (0, .ref (jD G o)), (1, .int (jI a1))]) C.1 C.2.1 dX7_sizeOf_3 rfl hl (by decide) rfl (fun ls hl => ?_)
  obtain ⟨kx4, hkx4, h⟩ : ∃ kx4 : Int → Prop, (∀ (x3 : Int) (H : Heap) (locs : List Loc) (ls : Array Slot), kx4 x3 → jR x3 → Hp G M s.heap H locs → lv_has ls 4 [(2, .int (jI x3))] → W p l e (rmm 1 22) s m args below meth c H locs 0 0 (MQ below (qI G (fun r M' => M' = M ∧ k r)) args s 0 0 (gA G)) (F0 m 33 ls [])) ∧ lp_X7_sizeOf_4 o a1 M kx4 N 0 0 := by
    refine ⟨_, ?_, h⟩
    intro x3 H locs ls h r_x3 B hl
    refine lv_iload_n C.1 C.2.1 dX7_sizeOf_33 rfl (lv_at hl 0 rfl) ?_
    exact jr_iret C B hr hlocks r_x3 ⟨rfl, h⟩ dX7_sizeOf_34
  have hL4 : ∀ (n : Nat) (x1 : Int) (x2 : Int) (H : Heap) (locs : List Loc) (ls : Array Slot), lp_X7_sizeOf_4 o a1 M kx4 n x1 x2 → jR x1 → jR x2 → Hp G M s.heap H locs → lv_has ls 4 [(2, .int (jI x1)), (3, .int (jI x2)), (0, .ref (jD G o)), (1, .int (jI a1))] → W p l e (rmm 1 22) s m args below meth c H locs 0 0 (MQ below (qI G (fun r M' => M' = M ∧ k r)) args s 0 0 (gA G)) (F0 m 4 ls []) := by
    intro n
    induction n with
    | zero => intro x1 x2 H locs ls h; exact (show False from h).elim
    | succ n ih4 =>
      intro x1 x2 H locs ls h r_x1 r_x2 B hl
      rw [lp_X7_sizeOf_4] at h
      refine lv_iload_n C.1 C.2.1 dX7_sizeOf_4 rfl (lv_at hl 1 rfl) ?_
      refine jr_bipush C dX7_sizeOf_5 (by decide) ?_
      refine jr_icmp_ge (tgt := 33) C r_x2 (jkc rfl) h dX7_sizeOf_7 (by decide) (fun hc7 h => ?_) (fun hc7 h => ?_)
      · refine lv_iload_n C.1 C.2.1 dX7_sizeOf_10 rfl (lv_at hl 0 rfl) ?_
        refine lv_aload_n C.1 C.2.1 dX7_sizeOf_11 rfl (lv_at hl 2 rfl) ?_
        refine lv_iload_n C.1 C.2.1 dX7_sizeOf_12 rfl (lv_at hl 3 rfl) ?_
        refine lv_iload_n C.1 C.2.1 dX7_sizeOf_13 rfl (lv_at hl 1 rfl) ?_
        refine cl_X7_isIn C hl.1 B q_1021 ⟨Nat.le_of_ble_eq_true rfl, Nat.le_of_ble_eq_true rfl⟩ ⟨Nat.zero_le _, Nat.zero_le _⟩ (Nat.le_of_ble_eq_true rfl) k_o r_a1 r_x2 h dX7_sizeOf_14 (fun x4 z_x4 _ _ h B => ?_)
        refine jr_if_eq (tgt := 24) C (zR z_x4) h dX7_sizeOf_17 (by decide) (fun hc17 h => ?_) (fun hc17 h => ?_)
        · refine jr_iconst C dX7_sizeOf_24 ?_
          refine jr_iadd C dX7_sizeOf_25 ?_
          refine jr_nm h (jW_R _) (fun x5 h r_x5 => ?_)
          refine lv_istore_n (lv' := [(2, .int (jI x5)), (3, .int (jI x2)), (0, .ref (jD G o)), (1, .int (jI a1))]) C.1 C.2.1 dX7_sizeOf_26 rfl hl (by decide) rfl (fun ls hl => ?_)
          refine jr_iinc (k := 1) (lv' := fun x6 => [(3, .int (jI x6)), (2, .int (jI x5)), (0, .ref (jD G o)), (1, .int (jI a1))]) C h hl rfl (by decide) (fun _ => rfl) dX7_sizeOf_27 (fun x6 h r_x6 ls hl => ?_)
          refine lv_goto (tgt := 4) C.1 C.2.1 dX7_sizeOf_30 (by decide) ?_
          exact ih4 _ _ _ _ _ h r_x5 r_x6 B (lv_sub hl [1, 0, 2, 3] rfl)
        · refine jr_iconst C dX7_sizeOf_20 ?_
          refine lv_goto (tgt := 25) C.1 C.2.1 dX7_sizeOf_21 (by decide) ?_
          refine jr_iadd C dX7_sizeOf_25 ?_
          refine jr_nm h (jW_R _) (fun x7 h r_x7 => ?_)
          refine lv_istore_n (lv' := [(2, .int (jI x7)), (3, .int (jI x2)), (0, .ref (jD G o)), (1, .int (jI a1))]) C.1 C.2.1 dX7_sizeOf_26 rfl hl (by decide) rfl (fun ls hl => ?_)
          refine jr_iinc (k := 1) (lv' := fun x8 => [(3, .int (jI x8)), (2, .int (jI x7)), (0, .ref (jD G o)), (1, .int (jI a1))]) C h hl rfl (by decide) (fun _ => rfl) dX7_sizeOf_27 (fun x8 h r_x8 ls hl => ?_)
          refine lv_goto (tgt := 4) C.1 C.2.1 dX7_sizeOf_30 (by decide) ?_
          exact ih4 _ _ _ _ _ h r_x7 r_x8 B (lv_sub hl [1, 0, 2, 3] rfl)
      · exact hkx4 _ _ _ _ h r_x1 B (lv_sub hl [0] rfl)
  exact hL4 N _ _ _ _ _ h (jkc rfl) (jkc rfl) B (lv_sub hl [1, 0, 2, 3] rfl)
theorem cl_X7_sizeOf {p : Program} {l : Launch} {e : Env} {R : Room} {s : State} {m : MethodId} {args : Array Value} {below : List Frame} {meth : Method} {c : Code} {H : Heap} {locs : List Loc} {cells slots : Nat} {Q : State → Prop} {cc : ByteArray} {nL : Nat} {own : String} {G : jG} {H0 : Heap} {pc idx : Nat} {ls : Array Slot} {rest : List Value} {N : Nat} {M : jM} {o a1 : Int} {k : Int → Prop} (C : Cx G p s args m c cc nL own) (hl : ls.size = nL) (B : Hp G M H0 H locs) (q1 : Cond.methodLink own idx yX7_sizeOf ∈ tb) (hR : (rmm 1 22).frames + 1 ≤ R.frames ∧ 8 + (4 + 11) + (rmm 1 22).locals ≤ R.locals) (hcs : cells ≤ R.cells ∧ slots ≤ R.slots) (hW : (rest.map fun v => v.category).sum ≤ 8) (k_o : jK o = 8) (r_a1 : jR a1) (h : w_X7_sizeOf N M o a1 k) (hdg : decode cc pc = .ok (.invokevirtual idx, 3)) (kk : ∀ (r : Int), jR r → ∀ (H1 : Heap) (locs1 : List Loc), k r → Hp G M H0 H1 locs1 → W p l e R s m args below meth c H1 locs1 cells slots Q (F0 m (pc + 3) ls (.int (jI r) :: rest))) : W p l e R s m args below meth c H locs cells slots Q (F0 m pc ls (.int (jI a1) :: .ref (jD G o) :: rest)) :=
  jr_callI B (jr_runV (o := o) (As := [.int (jI a1)]) (n := 1) C hl B (m_X7_sizeOf B.2.2 k_o r_a1 h) (jE8 k_o) (by omega) rfl q1 q_1019 qs_67 q_1020 q_8 ⟨by decide, by decide, by decide +kernel⟩ rfl ⟨rfl, rfl⟩ hR hcs rfl hW hdg) (fun r M' H1 locs1 hr hk B1 => by obtain ⟨rfl, hk⟩ := hk; exact kk r hr H1 locs1 hk B1)
def w_X7_laysIn (M : jM) (o : Int) (a1 : Int) (a2 : Int) (a3 : Int) (k : jM → Prop) : Prop := (jL (jW ((jW (23 + (jW (4 * a1)))) + (jDiv a2 30))) (fun x1 => (jB x1 1115 ∧ (if a3 = 0 then (jB x1 1115 ∧ jL (jU M (o + 1) x1 (jOr (jAnd (M (o + 1) x1) (jXor (jShl 1 (jRem a2 30)) (-1))) 0)) (fun M3 => (k M3))) else (jB x1 1115 ∧ jL (jU M (o + 1) x1 (jOr (jAnd (M (o + 1) x1) (jXor (jShl 1 (jRem a2 30)) (-1))) (jShl 1 (jRem a2 30)))) (fun M4 => (k M4)))))))
set_option maxHeartbeats 4000000 in
set_option maxRecDepth 100000 in
theorem m_X7_laysIn {l : Launch} {G : jG} {M : jM} {o a1 a2 a3 : Int} {k : jM → Prop} (o_M : jOK M) (k_o : jK o = 8) (r_a1 : jR a1) (r_a2 : jR a2) (z_a3 : a3 = 0 ∨ a3 = 1) (h : w_X7_laysIn M o a1 a2 a3 k) : Met l yX7_laysIn (wsG yX7_laysIn cX7_laysIn 5 none) (rmm 0 0) (jPc G M [.ref (jD G o), .int (jI a1), .int (jI a2), .int (jI a3)]) (qV G k) 0 0 (gA G) := by
  refine jm_start RX7 rfl (by decide) (Nat.le_of_ble_eq_true rfl) o_M ?_
  intro p e s m args below meth c ls C hr hlocks hl B
  have hl : lv_has ls 5 [(0, .ref (jD G o)), (1, .int (jI a1)), (2, .int (jI a2)), (3, .int (jI a3))] := hl
  unfold w_X7_laysIn at h
  refine jr_bipush C dX7_laysIn_0 (by decide) ?_
  refine jr_iconst C dX7_laysIn_2 ?_
  refine lv_iload_n C.1 C.2.1 dX7_laysIn_3 rfl (lv_at hl 1 rfl) ?_
  refine jr_imul C dX7_laysIn_4 ?_
  refine jr_iadd C dX7_laysIn_5 ?_
  refine lv_iload_n C.1 C.2.1 dX7_laysIn_6 rfl (lv_at hl 2 rfl) ?_
  refine jr_bipush C dX7_laysIn_7 (by decide) ?_
  refine jr_idiv C (by decide) dX7_laysIn_9 ?_
  refine jr_iadd C dX7_laysIn_10 ?_
  refine jr_nm h (jW_R _) (fun x1 h r_x1 => ?_)
  refine lv_istore (lv' := [(4, .int (jI x1)), (0, .ref (jD G o)), (1, .int (jI a1)), (2, .int (jI a2)), (3, .int (jI a3))]) C.1 C.2.1 dX7_laysIn_11 hl (by decide) rfl (fun ls hl => ?_)
  refine lv_aload_n C.1 C.2.1 dX7_laysIn_13 rfl (lv_at hl 1 rfl) ?_
  refine gf_X7_7 C B k_o dX7_laysIn_14 ?_
  refine lv_iload C.1 C.2.1 dX7_laysIn_17 (lv_at hl 0 rfl) ?_
  refine lv_aload_n C.1 C.2.1 dX7_laysIn_19 rfl (lv_at hl 1 rfl) ?_
  refine gf_X7_7 C B k_o dX7_laysIn_20 ?_
  refine lv_iload C.1 C.2.1 dX7_laysIn_23 (lv_at hl 0 rfl) ?_
  obtain ⟨g2, h⟩ := h
  refine jr_iald C B 1115 (jk1 (ko_X7_0 k_o) rfl) (jk2 (ko_X7_0 k_o) rfl) r_x1 g2 dX7_laysIn_25 ?_
  refine jr_iconst C dX7_laysIn_26 ?_
  refine lv_iload_n C.1 C.2.1 dX7_laysIn_27 rfl (lv_at hl 3 rfl) ?_
  refine jr_bipush C dX7_laysIn_28 (by decide) ?_
  refine jr_irem C (by decide) dX7_laysIn_30 ?_
  refine jr_ishl C dX7_laysIn_31 ?_
  refine jr_iconst C dX7_laysIn_32 ?_
  refine jr_ixor C dX7_laysIn_33 ?_
  refine jr_iand C dX7_laysIn_34 ?_
  refine lv_iload_n C.1 C.2.1 dX7_laysIn_35 rfl (lv_at hl 4 rfl) ?_
  refine jr_if_eq (tgt := 48) C (zR z_a3) h dX7_laysIn_36 (by decide) (fun hc36 h => ?_) (fun hc36 h => ?_)
  · refine jr_iconst C dX7_laysIn_48 ?_
    refine jr_ior C dX7_laysIn_49 ?_
    refine jr_iast C B 1115 (jk1 (ko_X7_0 k_o) rfl) (jk2 (ko_X7_0 k_o) rfl) r_x1 (jOr_R _ _) h dX7_laysIn_50 (fun M3 _ _ h B => ?_)
    have o_M3 := B.2.2
    exact jr_vret C B hr hlocks h dX7_laysIn_51
  · refine jr_iconst C dX7_laysIn_39 ?_
    refine lv_iload_n C.1 C.2.1 dX7_laysIn_40 rfl (lv_at hl 3 rfl) ?_
    refine jr_bipush C dX7_laysIn_41 (by decide) ?_
    refine jr_irem C (by decide) dX7_laysIn_43 ?_
    refine jr_ishl C dX7_laysIn_44 ?_
    refine lv_goto (tgt := 49) C.1 C.2.1 dX7_laysIn_45 (by decide) ?_
    refine jr_ior C dX7_laysIn_49 ?_
    refine jr_iast C B 1115 (jk1 (ko_X7_0 k_o) rfl) (jk2 (ko_X7_0 k_o) rfl) r_x1 (jOr_R _ _) h dX7_laysIn_50 (fun M4 _ _ h B => ?_)
    have o_M4 := B.2.2
    exact jr_vret C B hr hlocks h dX7_laysIn_51
theorem cl_X7_laysIn {p : Program} {l : Launch} {e : Env} {R : Room} {s : State} {m : MethodId} {args : Array Value} {below : List Frame} {meth : Method} {c : Code} {H : Heap} {locs : List Loc} {cells slots : Nat} {Q : State → Prop} {cc : ByteArray} {nL : Nat} {own : String} {G : jG} {H0 : Heap} {pc idx : Nat} {ls : Array Slot} {rest : List Value} {M : jM} {o a1 a2 a3 : Int} {k : jM → Prop} (C : Cx G p s args m c cc nL own) (hl : ls.size = nL) (B : Hp G M H0 H locs) (q1 : Cond.methodLink own idx yX7_laysIn ∈ tb) (hR : (rmm 0 0).frames + 1 ≤ R.frames ∧ 8 + (5 + 11) + (rmm 0 0).locals ≤ R.locals) (hcs : cells ≤ R.cells ∧ slots ≤ R.slots) (hW : (rest.map fun v => v.category).sum ≤ 8) (k_o : jK o = 8) (r_a1 : jR a1) (r_a2 : jR a2) (z_a3 : a3 = 0 ∨ a3 = 1) (h : w_X7_laysIn M o a1 a2 a3 k) (hdg : decode cc pc = .ok (.invokevirtual idx, 3)) (kk : ∀ (M' : jM) (H1 : Heap) (locs1 : List Loc), k M' → Hp G M' H0 H1 locs1 → W p l e R s m args below meth c H1 locs1 cells slots Q (F0 m (pc + 3) ls rest)) : W p l e R s m args below meth c H locs cells slots Q (F0 m pc ls (.int (jI a3) :: .int (jI a2) :: .int (jI a1) :: .ref (jD G o) :: rest)) :=
  jr_callV B (jr_runV (o := o) (As := [.int (jI a1), .int (jI a2), .int (jI a3)]) (n := 3) C hl B (m_X7_laysIn B.2.2 k_o r_a1 r_a2 z_a3 h) (jE8 k_o) (by omega) rfl q1 q_1015 qs_66 q_1016 q_8 ⟨by decide, by decide, by decide +kernel⟩ rfl ⟨rfl, rfl⟩ hR hcs rfl hW hdg) (fun M' H1 locs1 hk B1 => kk M' H1 locs1 hk B1)
def w_X7_passes (a1 : Int) (a2 : Int) (a3 : Int) (k : Int → Prop) : Prop := (if a2 = 0 then (if a1 < a3 then (k 1) else (k 0)) else (if a2 = 1 then (if a1 = a3 then (k 1) else (k 0)) else (if a1 ≤ a3 then (k 0) else (k 1))))
set_option maxHeartbeats 4000000 in
set_option maxRecDepth 100000 in
theorem m_X7_passes {l : Launch} {G : jG} {M : jM} {a1 a2 a3 : Int} {k : Int → Prop} (o_M : jOK M) (r_a1 : jR a1) (r_a2 : jR a2) (r_a3 : jR a3) (h : w_X7_passes a1 a2 a3 k) : Met l yX7_passes (wsG yX7_passes cX7_passes 3 (some .boolean)) (rmm 0 0) (jPc G M [.int (jI a1), .int (jI a2), .int (jI a3)]) (qZ G (fun r M' => M' = M ∧ k r)) 0 0 (gA G) := by
  refine jm_start RX7 rfl (by decide) (Nat.le_of_ble_eq_true rfl) o_M ?_
  intro p e s m args below meth c ls C hr hlocks hl B
  have hl : lv_has ls 3 [(0, .int (jI a1)), (1, .int (jI a2)), (2, .int (jI a3))] := hl
  unfold w_X7_passes at h
  refine lv_iload_n C.1 C.2.1 dX7_passes_0 rfl (lv_at hl 1 rfl) ?_
  refine jr_if_ne (tgt := 17) C r_a2 h dX7_passes_1 (by decide) (fun hc1 h => ?_) (fun hc1 h => ?_)
  · refine lv_iload_n C.1 C.2.1 dX7_passes_4 rfl (lv_at hl 0 rfl) ?_
    refine lv_iload_n C.1 C.2.1 dX7_passes_5 rfl (lv_at hl 2 rfl) ?_
    refine jr_icmp_ge (tgt := 13) C r_a1 r_a3 h dX7_passes_6 (by decide) (fun hc6 h => ?_) (fun hc6 h => ?_)
    · refine jr_iconst C dX7_passes_9 ?_
      refine lv_goto (tgt := 45) C.1 C.2.1 dX7_passes_10 (by decide) ?_
      exact jr_zret C B hr hlocks (Or.inr rfl) ⟨rfl, h⟩ dX7_passes_45
    · refine jr_iconst C dX7_passes_13 ?_
      refine lv_goto (tgt := 45) C.1 C.2.1 dX7_passes_14 (by decide) ?_
      exact jr_zret C B hr hlocks (Or.inl rfl) ⟨rfl, h⟩ dX7_passes_45
  · refine lv_iload_n C.1 C.2.1 dX7_passes_17 rfl (lv_at hl 1 rfl) ?_
    refine jr_iconst C dX7_passes_18 ?_
    refine jr_icmp_ne (tgt := 35) C r_a2 (jkc rfl) h dX7_passes_19 (by decide) (fun hc19 h => ?_) (fun hc19 h => ?_)
    · refine lv_iload_n C.1 C.2.1 dX7_passes_22 rfl (lv_at hl 0 rfl) ?_
      refine lv_iload_n C.1 C.2.1 dX7_passes_23 rfl (lv_at hl 2 rfl) ?_
      refine jr_icmp_ne (tgt := 31) C r_a1 r_a3 h dX7_passes_24 (by decide) (fun hc24 h => ?_) (fun hc24 h => ?_)
      · refine jr_iconst C dX7_passes_27 ?_
        refine lv_goto (tgt := 45) C.1 C.2.1 dX7_passes_28 (by decide) ?_
        exact jr_zret C B hr hlocks (Or.inr rfl) ⟨rfl, h⟩ dX7_passes_45
      · refine jr_iconst C dX7_passes_31 ?_
        refine lv_goto (tgt := 45) C.1 C.2.1 dX7_passes_32 (by decide) ?_
        exact jr_zret C B hr hlocks (Or.inl rfl) ⟨rfl, h⟩ dX7_passes_45
    · refine lv_iload_n C.1 C.2.1 dX7_passes_35 rfl (lv_at hl 0 rfl) ?_
      refine lv_iload_n C.1 C.2.1 dX7_passes_36 rfl (lv_at hl 2 rfl) ?_
      refine jr_icmp_le (tgt := 44) C r_a1 r_a3 h dX7_passes_37 (by decide) (fun hc37 h => ?_) (fun hc37 h => ?_)
      · refine jr_iconst C dX7_passes_44 ?_
        exact jr_zret C B hr hlocks (Or.inl rfl) ⟨rfl, h⟩ dX7_passes_45
      · refine jr_iconst C dX7_passes_40 ?_
        refine lv_goto (tgt := 45) C.1 C.2.1 dX7_passes_41 (by decide) ?_
        exact jr_zret C B hr hlocks (Or.inr rfl) ⟨rfl, h⟩ dX7_passes_45
theorem cl_X7_passes {p : Program} {l : Launch} {e : Env} {R : Room} {s : State} {m : MethodId} {args : Array Value} {below : List Frame} {meth : Method} {c : Code} {H : Heap} {locs : List Loc} {cells slots : Nat} {Q : State → Prop} {cc : ByteArray} {nL : Nat} {own : String} {G : jG} {H0 : Heap} {pc idx : Nat} {ls : Array Slot} {rest : List Value} {M : jM} {a1 a2 a3 : Int} {k : Int → Prop} (C : Cx G p s args m c cc nL own) (hl : ls.size = nL) (B : Hp G M H0 H locs) (q1 : Cond.methodLink own idx yX7_passes ∈ tb) (hR : (rmm 0 0).frames + 1 ≤ R.frames ∧ 8 + (3 + 11) + (rmm 0 0).locals ≤ R.locals) (hcs : cells ≤ R.cells ∧ slots ≤ R.slots) (hW : (rest.map fun v => v.category).sum ≤ 8) (r_a1 : jR a1) (r_a2 : jR a2) (r_a3 : jR a3) (h : w_X7_passes a1 a2 a3 k) (hdg : decode cc pc = .ok (.invokestatic idx, 3)) (kk : ∀ (r : Int), (r = 0 ∨ r = 1) → ∀ (H1 : Heap) (locs1 : List Loc), k r → Hp G M H0 H1 locs1 → W p l e R s m args below meth c H1 locs1 cells slots Q (F0 m (pc + 3) ls (.int (jI r) :: rest))) : W p l e R s m args below meth c H locs cells slots Q (F0 m pc ls (.int (jI a3) :: .int (jI a2) :: .int (jI a1) :: rest)) :=
  jr_callZ B (jr_runS (As := [.int (jI a1), .int (jI a2), .int (jI a3)]) (n := 3) C hl B (m_X7_passes B.2.2 r_a1 r_a2 r_a3 h) q1 q_1011 q_1012 q_8 ⟨by decide, by decide, by decide +kernel⟩ rfl ⟨rfl, rfl⟩ hR hcs rfl hW hdg) (fun r M' H1 locs1 hr hk B1 => by obtain ⟨rfl, hk⟩ := hk; exact kk r hr H1 locs1 hk B1)
def lp_X7_isSelected_14 (o : Int) (a3 : Int) (a4 : Int) (x1 : Int) (M2 : jM) (kx14 : Int → Prop) : Nat → Int → Int → Prop
  | 0, _, _ => False
  | n + 1, x3, x4 => (if x4 < x1 then (jB x4 20 ∧ (w_X7_passes (M2 (o + 6) x4) a3 a4 (fun x7 => (if x7 = 0 then (jL (jW (x3 + 0)) (fun x8 => (jL (jW (x4 + 1)) (fun x9 => (lp_X7_isSelected_14 o a3 a4 x1 M2 kx14 n x8 x9))))) else (jL (jW (x3 + 1)) (fun x10 => (jL (jW (x4 + 1)) (fun x11 => (lp_X7_isSelected_14 o a3 a4 x1 M2 kx14 n x10 x11))))))))) else (kx14 x3))
def w_X7_isSelected (N : Nat) (M : jM) (o : Int) (a1 : Int) (a2 : Int) (a3 : Int) (a4 : Int) (a5 : Int) (k : Int → jM → Prop) : Prop := (w_X7_tells N M o a1 a2 (fun x1 M2 => (lp_X7_isSelected_14 o a3 a4 x1 M2 (fun (x5 : Int) => (if a5 = 0 then (if x5 ≤ 0 then (k 0 M2) else (k 1 M2)) else (if x1 ≤ 0 then (k 0 M2) else (if x5 = x1 then (k 1 M2) else (k 0 M2))))) N 0 0)))
set_option maxHeartbeats 4000000 in
set_option maxRecDepth 100000 in
theorem m_X7_isSelected {l : Launch} {G : jG} {N : Nat} {M : jM} {o a1 a2 a3 a4 a5 : Int} {k : Int → jM → Prop} (o_M : jOK M) (k_o : jK o = 8) (r_a1 : jR a1) (r_a2 : jR a2) (r_a3 : jR a3) (r_a4 : jR a4) (z_a5 : a5 = 0 ∨ a5 = 1) (h : w_X7_isSelected N M o a1 a2 a3 a4 a5 k) : Met l yX7_isSelected (wsG yX7_isSelected cX7_isSelected 9 (some .boolean)) (rmm 5 114) (jPc G M [.ref (jD G o), .int (jI a1), .int (jI a2), .int (jI a3), .int (jI a4), .int (jI a5)]) (qZ G k) 0 0 (gA G) := by
  refine jm_start RX7 rfl (by decide) (Nat.le_of_ble_eq_true rfl) o_M ?_
  intro p e s m args below meth c ls C hr hlocks hl B
  have hl : lv_has ls 9 [(0, .ref (jD G o)), (1, .int (jI a1)), (2, .int (jI a2)), (3, .int (jI a3)), (4, .int (jI a4)), (5, .int (jI a5))] := hl
  unfold w_X7_isSelected at h
  refine lv_aload_n C.1 C.2.1 dX7_isSelected_0 rfl (lv_at hl 0 rfl) ?_
  refine lv_iload_n C.1 C.2.1 dX7_isSelected_1 rfl (lv_at hl 1 rfl) ?_
  refine lv_iload_n C.1 C.2.1 dX7_isSelected_2 rfl (lv_at hl 2 rfl) ?_
  refine cl_X7_tells C hl.1 B q_986 ⟨Nat.le_of_ble_eq_true rfl, Nat.le_of_ble_eq_true rfl⟩ ⟨Nat.zero_le _, Nat.zero_le _⟩ (Nat.le_of_ble_eq_true rfl) k_o r_a1 r_a2 h dX7_isSelected_3 (fun x1 M2 r_x1 _ _ h B => ?_)
  have o_M2 := B.2.2
  refine lv_istore (lv' := [(6, .int (jI x1)), (0, .ref (jD G o)), (1, .int (jI a1)), (2, .int (jI a2)), (3, .int (jI a3)), (4, .int (jI a4)), (5, .int (jI a5))]) C.1 C.2.1 dX7_isSelected_6 hl (by decide) rfl (fun ls hl => ?_)
  refine jr_iconst C dX7_isSelected_8 ?_
  refine lv_istore (lv' := [(7, .int (jI 0)), (6, .int (jI x1)), (0, .ref (jD G o)), (1, .int (jI a1)), (2, .int (jI a2)), (3, .int (jI a3)), (4, .int (jI a4)), (5, .int (jI a5))]) C.1 C.2.1 dX7_isSelected_9 hl (by decide) rfl (fun ls hl => ?_)
  refine jr_iconst C dX7_isSelected_11 ?_
  refine lv_istore (lv' := [(8, .int (jI 0)), (7, .int (jI 0)), (6, .int (jI x1)), (0, .ref (jD G o)), (1, .int (jI a1)), (2, .int (jI a2)), (3, .int (jI a3)), (4, .int (jI a4)), (5, .int (jI a5))]) C.1 C.2.1 dX7_isSelected_12 hl (by decide) rfl (fun ls hl => ?_)
  obtain ⟨kx14, hkx14, h⟩ : ∃ kx14 : Int → Prop, (∀ (x5 : Int) (H : Heap) (locs : List Loc) (ls : Array Slot), kx14 x5 → jR x5 → Hp G M2 s.heap H locs → lv_has ls 9 [(7, .int (jI x5)), (6, .int (jI x1)), (5, .int (jI a5))] → W p l e (rmm 5 114) s m args below meth c H locs 0 0 (MQ below (qZ G k) args s 0 0 (gA G)) (F0 m 53 ls [])) ∧ lp_X7_isSelected_14 o a3 a4 x1 M2 kx14 N 0 0 := by
    refine ⟨_, ?_, h⟩
    intro x5 H locs ls h r_x5 B hl
    refine lv_iload C.1 C.2.1 dX7_isSelected_53 (lv_at hl 2 rfl) ?_
    refine jr_if_eq (tgt := 78) C (zR z_a5) h dX7_isSelected_55 (by decide) (fun hc55 h => ?_) (fun hc55 h => ?_)
    · refine lv_iload C.1 C.2.1 dX7_isSelected_78 (lv_at hl 0 rfl) ?_
      refine jr_if_le (tgt := 87) C r_x5 h dX7_isSelected_80 (by decide) (fun hc80 h => ?_) (fun hc80 h => ?_)
      · refine jr_iconst C dX7_isSelected_87 ?_
        exact jr_zret C B hr hlocks (Or.inl rfl) h dX7_isSelected_88
      · refine jr_iconst C dX7_isSelected_83 ?_
        refine lv_goto (tgt := 88) C.1 C.2.1 dX7_isSelected_84 (by decide) ?_
        exact jr_zret C B hr hlocks (Or.inr rfl) h dX7_isSelected_88
    · refine lv_iload C.1 C.2.1 dX7_isSelected_58 (lv_at hl 1 rfl) ?_
      refine jr_if_le (tgt := 74) C r_x1 h dX7_isSelected_60 (by decide) (fun hc60 h => ?_) (fun hc60 h => ?_)
      · refine jr_iconst C dX7_isSelected_74 ?_
        refine lv_goto (tgt := 88) C.1 C.2.1 dX7_isSelected_75 (by decide) ?_
        exact jr_zret C B hr hlocks (Or.inl rfl) h dX7_isSelected_88
      · refine lv_iload C.1 C.2.1 dX7_isSelected_63 (lv_at hl 0 rfl) ?_
        refine lv_iload C.1 C.2.1 dX7_isSelected_65 (lv_at hl 1 rfl) ?_
        refine jr_icmp_ne (tgt := 74) C r_x5 r_x1 h dX7_isSelected_67 (by decide) (fun hc67 h => ?_) (fun hc67 h => ?_)
        · refine jr_iconst C dX7_isSelected_70 ?_
          refine lv_goto (tgt := 88) C.1 C.2.1 dX7_isSelected_71 (by decide) ?_
          exact jr_zret C B hr hlocks (Or.inr rfl) h dX7_isSelected_88
        · refine jr_iconst C dX7_isSelected_74 ?_
          refine lv_goto (tgt := 88) C.1 C.2.1 dX7_isSelected_75 (by decide) ?_
          exact jr_zret C B hr hlocks (Or.inl rfl) h dX7_isSelected_88
  have hL14 : ∀ (n : Nat) (x3 : Int) (x4 : Int) (H : Heap) (locs : List Loc) (ls : Array Slot), lp_X7_isSelected_14 o a3 a4 x1 M2 kx14 n x3 x4 → jR x3 → jR x4 → Hp G M2 s.heap H locs → lv_has ls 9 [(7, .int (jI x3)), (8, .int (jI x4)), (6, .int (jI x1)), (0, .ref (jD G o)), (3, .int (jI a3)), (4, .int (jI a4)), (5, .int (jI a5))] → W p l e (rmm 5 114) s m args below meth c H locs 0 0 (MQ below (qZ G k) args s 0 0 (gA G)) (F0 m 14 ls []) := by
    intro n
    induction n with
    | zero => intro x3 x4 H locs ls h; exact (show False from h).elim
    | succ n ih14 =>
      intro x3 x4 H locs ls h r_x3 r_x4 B hl
      rw [lp_X7_isSelected_14] at h
      refine lv_iload C.1 C.2.1 dX7_isSelected_14 (lv_at hl 1 rfl) ?_
      refine lv_iload C.1 C.2.1 dX7_isSelected_16 (lv_at hl 2 rfl) ?_
      refine jr_icmp_ge (tgt := 53) C r_x4 r_x1 h dX7_isSelected_18 (by decide) (fun hc18 h => ?_) (fun hc18 h => ?_)
      · refine lv_iload C.1 C.2.1 dX7_isSelected_21 (lv_at hl 0 rfl) ?_
        refine lv_aload_n C.1 C.2.1 dX7_isSelected_23 rfl (lv_at hl 3 rfl) ?_
        refine gf_X7_25 C B k_o dX7_isSelected_24 ?_
        refine lv_iload C.1 C.2.1 dX7_isSelected_27 (lv_at hl 1 rfl) ?_
        obtain ⟨g6, h⟩ := h
        refine jr_iald C B 20 (jk1 (ko_X7_10 k_o) rfl) (jk2 (ko_X7_10 k_o) rfl) r_x4 g6 dX7_isSelected_29 ?_
        refine lv_iload_n C.1 C.2.1 dX7_isSelected_30 rfl (lv_at hl 4 rfl) ?_
        refine lv_iload C.1 C.2.1 dX7_isSelected_31 (lv_at hl 5 rfl) ?_
        refine cl_X7_passes C hl.1 B q_1010 ⟨Nat.le_of_ble_eq_true rfl, Nat.le_of_ble_eq_true rfl⟩ ⟨Nat.zero_le _, Nat.zero_le _⟩ (Nat.le_of_ble_eq_true rfl) (o_M2 (o + 6) x4).1 r_a3 r_a4 h dX7_isSelected_33 (fun x7 z_x7 _ _ h B => ?_)
        refine jr_if_eq (tgt := 43) C (zR z_x7) h dX7_isSelected_36 (by decide) (fun hc36 h => ?_) (fun hc36 h => ?_)
        · refine jr_iconst C dX7_isSelected_43 ?_
          refine jr_iadd C dX7_isSelected_44 ?_
          refine jr_nm h (jW_R _) (fun x8 h r_x8 => ?_)
          refine lv_istore (lv' := [(7, .int (jI x8)), (8, .int (jI x4)), (6, .int (jI x1)), (0, .ref (jD G o)), (3, .int (jI a3)), (4, .int (jI a4)), (5, .int (jI a5))]) C.1 C.2.1 dX7_isSelected_45 hl (by decide) rfl (fun ls hl => ?_)
          refine jr_iinc (k := 1) (lv' := fun x9 => [(8, .int (jI x9)), (7, .int (jI x8)), (6, .int (jI x1)), (0, .ref (jD G o)), (3, .int (jI a3)), (4, .int (jI a4)), (5, .int (jI a5))]) C h hl rfl (by decide) (fun _ => rfl) dX7_isSelected_47 (fun x9 h r_x9 ls hl => ?_)
          refine lv_goto (tgt := 14) C.1 C.2.1 dX7_isSelected_50 (by decide) ?_
          exact ih14 _ _ _ _ _ h r_x8 r_x9 B (lv_sub hl [1, 0, 2, 3, 4, 5, 6] rfl)
        · refine jr_iconst C dX7_isSelected_39 ?_
          refine lv_goto (tgt := 44) C.1 C.2.1 dX7_isSelected_40 (by decide) ?_
          refine jr_iadd C dX7_isSelected_44 ?_
          refine jr_nm h (jW_R _) (fun x10 h r_x10 => ?_)
          refine lv_istore (lv' := [(7, .int (jI x10)), (8, .int (jI x4)), (6, .int (jI x1)), (0, .ref (jD G o)), (3, .int (jI a3)), (4, .int (jI a4)), (5, .int (jI a5))]) C.1 C.2.1 dX7_isSelected_45 hl (by decide) rfl (fun ls hl => ?_)
          refine jr_iinc (k := 1) (lv' := fun x11 => [(8, .int (jI x11)), (7, .int (jI x10)), (6, .int (jI x1)), (0, .ref (jD G o)), (3, .int (jI a3)), (4, .int (jI a4)), (5, .int (jI a5))]) C h hl rfl (by decide) (fun _ => rfl) dX7_isSelected_47 (fun x11 h r_x11 ls hl => ?_)
          refine lv_goto (tgt := 14) C.1 C.2.1 dX7_isSelected_50 (by decide) ?_
          exact ih14 _ _ _ _ _ h r_x10 r_x11 B (lv_sub hl [1, 0, 2, 3, 4, 5, 6] rfl)
      · exact hkx14 _ _ _ _ h r_x3 B (lv_sub hl [0, 2, 6] rfl)
  exact hL14 N _ _ _ _ _ h (jkc rfl) (jkc rfl) B (lv_sub hl [1, 0, 2, 3, 6, 7, 8] rfl)
theorem cl_X7_isSelected {p : Program} {l : Launch} {e : Env} {R : Room} {s : State} {m : MethodId} {args : Array Value} {below : List Frame} {meth : Method} {c : Code} {H : Heap} {locs : List Loc} {cells slots : Nat} {Q : State → Prop} {cc : ByteArray} {nL : Nat} {own : String} {G : jG} {H0 : Heap} {pc idx : Nat} {ls : Array Slot} {rest : List Value} {N : Nat} {M : jM} {o a1 a2 a3 a4 a5 : Int} {k : Int → jM → Prop} (C : Cx G p s args m c cc nL own) (hl : ls.size = nL) (B : Hp G M H0 H locs) (q1 : Cond.methodLink own idx yX7_isSelected ∈ tb) (hR : (rmm 5 114).frames + 1 ≤ R.frames ∧ 8 + (9 + 11) + (rmm 5 114).locals ≤ R.locals) (hcs : cells ≤ R.cells ∧ slots ≤ R.slots) (hW : (rest.map fun v => v.category).sum ≤ 8) (k_o : jK o = 8) (r_a1 : jR a1) (r_a2 : jR a2) (r_a3 : jR a3) (r_a4 : jR a4) (z_a5 : a5 = 0 ∨ a5 = 1) (h : w_X7_isSelected N M o a1 a2 a3 a4 a5 k) (hdg : decode cc pc = .ok (.invokevirtual idx, 3)) (kk : ∀ (r : Int) (M' : jM), (r = 0 ∨ r = 1) → ∀ (H1 : Heap) (locs1 : List Loc), k r M' → Hp G M' H0 H1 locs1 → W p l e R s m args below meth c H1 locs1 cells slots Q (F0 m (pc + 3) ls (.int (jI r) :: rest))) : W p l e R s m args below meth c H locs cells slots Q (F0 m pc ls (.int (jI a5) :: .int (jI a4) :: .int (jI a3) :: .int (jI a2) :: .int (jI a1) :: .ref (jD G o) :: rest)) :=
  jr_callZ B (jr_runV (o := o) (As := [.int (jI a1), .int (jI a2), .int (jI a3), .int (jI a4), .int (jI a5)]) (n := 5) C hl B (m_X7_isSelected B.2.2 k_o r_a1 r_a2 r_a3 r_a4 z_a5 h) (jE8 k_o) (by omega) rfl q1 q_984 qs_59 q_985 q_8 ⟨by decide, by decide, by decide +kernel⟩ rfl ⟨rfl, rfl⟩ hR hcs rfl hW hdg) (fun r M' H1 locs1 hr hk B1 => kk r M' hr H1 locs1 hk B1)
def lp_X7_goSelect_44 (N : Nat) (o : Int) (a1 : Int) (a2 : Int) (a3 : Int) (a4 : Int) (a5 : Int) (kx44 : jM → Prop) : Nat → Int → jM → Prop
  | 0, _, _ => False
  | n + 1, x5, M6 => (if x5 < 100 then (w_X7_placeOf N M6 o x5 (fun x9 => (if x9 < 0 then (w_X7_laysIn M6 o a5 x5 0 (fun M10 => (jL (jW (x5 + 1)) (fun x11 => (lp_X7_goSelect_44 N o a1 a2 a3 a4 a5 kx44 n x11 M10))))) else (w_X7_isSelected N M6 o x9 a1 a2 a3 a4 (fun x12 M13 => (if x12 = 0 then (w_X7_laysIn M13 o a5 x5 0 (fun M14 => (jL (jW (x5 + 1)) (fun x15 => (lp_X7_goSelect_44 N o a1 a2 a3 a4 a5 kx44 n x15 M14))))) else (w_X7_laysIn M13 o a5 x5 1 (fun M16 => (jL (jW (x5 + 1)) (fun x17 => (lp_X7_goSelect_44 N o a1 a2 a3 a4 a5 kx44 n x17 M16))))))))))) else (kx44 M6))
def w_X7_goSelect (N : Nat) (M : jM) (o : Int) (a1 : Int) (a2 : Int) (a3 : Int) (a4 : Int) (a5 : Int) (k : Int → jM → Prop) : Prop := (w_X7_isColumn a1 (fun x1 => (if x1 = 0 then (k (-1000001) M) else (w_X7_isList a5 (fun x2 => (if x2 = 0 then (k (-1000001) M) else (w_X7_in a2 0 2 (fun x3 => (if x3 = 0 then (k (-1000002) M) else (w_X7_in a3 (-1000000) 1000000 (fun x4 => (if x4 = 0 then (k (-1000002) M) else (lp_X7_goSelect_44 N o a1 a2 a3 a4 a5 (fun (M7 : jM) => (w_X7_sizeOf N M7 o a5 (fun x8 => (k x8 M7)))) N 0 M)))))))))))))
set_option maxHeartbeats 4000000 in
set_option maxRecDepth 100000 in
theorem m_X7_goSelect {l : Launch} {G : jG} {N : Nat} {M : jM} {o a1 a2 a3 a4 a5 : Int} {k : Int → jM → Prop} (o_M : jOK M) (k_o : jK o = 8) (r_a1 : jR a1) (r_a2 : jR a2) (r_a3 : jR a3) (z_a4 : a4 = 0 ∨ a4 = 1) (r_a5 : jR a5) (h : w_X7_goSelect N M o a1 a2 a3 a4 a5 k) : Met l yX7_goSelect (wsG yX7_goSelect cX7_goSelect 8 (some .int)) (rmm 6 142) (jPc G M [.ref (jD G o), .int (jI a1), .int (jI a2), .int (jI a3), .int (jI a4), .int (jI a5)]) (qI G k) 0 0 (gA G) := by
  refine jm_start RX7 rfl (by decide) (Nat.le_of_ble_eq_true rfl) o_M ?_
  intro p e s m args below meth c ls C hr hlocks hl B
  have hl : lv_has ls 8 [(0, .ref (jD G o)), (1, .int (jI a1)), (2, .int (jI a2)), (3, .int (jI a3)), (4, .int (jI a4)), (5, .int (jI a5))] := hl
  unfold w_X7_goSelect at h
  refine lv_iload_n C.1 C.2.1 dX7_goSelect_0 rfl (lv_at hl 1 rfl) ?_
  refine cl_X7_isColumn C hl.1 B q_962 ⟨Nat.le_of_ble_eq_true rfl, Nat.le_of_ble_eq_true rfl⟩ ⟨Nat.zero_le _, Nat.zero_le _⟩ (Nat.le_of_ble_eq_true rfl) r_a1 h dX7_goSelect_1 (fun x1 z_x1 _ _ h B => ?_)
  refine jr_if_eq (tgt := 15) C (zR z_x1) h dX7_goSelect_4 (by decide) (fun hc4 h => ?_) (fun hc4 h => ?_)
  · refine jr_ldc (n := -1000001) C q_753 (by decide) dX7_goSelect_15 ?_
    exact jr_iret C B hr hlocks (jkc rfl) h dX7_goSelect_17
  · refine lv_iload C.1 C.2.1 dX7_goSelect_7 (lv_at hl 5 rfl) ?_
    refine cl_X7_isList C hl.1 B q_977 ⟨Nat.le_of_ble_eq_true rfl, Nat.le_of_ble_eq_true rfl⟩ ⟨Nat.zero_le _, Nat.zero_le _⟩ (Nat.le_of_ble_eq_true rfl) r_a5 h dX7_goSelect_9 (fun x2 z_x2 _ _ h B => ?_)
    refine jr_if_ne (tgt := 18) C (zR z_x2) h dX7_goSelect_12 (by decide) (fun hc12 h => ?_) (fun hc12 h => ?_)
    · refine jr_ldc (n := -1000001) C q_753 (by decide) dX7_goSelect_15 ?_
      exact jr_iret C B hr hlocks (jkc rfl) h dX7_goSelect_17
    · refine lv_iload_n C.1 C.2.1 dX7_goSelect_18 rfl (lv_at hl 2 rfl) ?_
      refine jr_iconst C dX7_goSelect_19 ?_
      refine jr_iconst C dX7_goSelect_20 ?_
      refine cl_X7_in C hl.1 B q_745 ⟨Nat.le_of_ble_eq_true rfl, Nat.le_of_ble_eq_true rfl⟩ ⟨Nat.zero_le _, Nat.zero_le _⟩ (Nat.le_of_ble_eq_true rfl) r_a2 (jkc rfl) (jkc rfl) h dX7_goSelect_21 (fun x3 z_x3 _ _ h B => ?_)
      refine jr_if_eq (tgt := 38) C (zR z_x3) h dX7_goSelect_24 (by decide) (fun hc24 h => ?_) (fun hc24 h => ?_)
      · refine jr_ldc (n := -1000002) C q_748 (by decide) dX7_goSelect_38 ?_
        exact jr_iret C B hr hlocks (jkc rfl) h dX7_goSelect_40
      · refine lv_iload_n C.1 C.2.1 dX7_goSelect_27 rfl (lv_at hl 3 rfl) ?_
        refine jr_ldc (n := -1000000) C q_980 (by decide) dX7_goSelect_28 ?_
        refine jr_ldc (n := 1000000) C q_981 (by decide) dX7_goSelect_30 ?_
        refine cl_X7_in C hl.1 B q_745 ⟨Nat.le_of_ble_eq_true rfl, Nat.le_of_ble_eq_true rfl⟩ ⟨Nat.zero_le _, Nat.zero_le _⟩ (Nat.le_of_ble_eq_true rfl) r_a3 (jkc rfl) (jkc rfl) h dX7_goSelect_32 (fun x4 z_x4 _ _ h B => ?_)
        refine jr_if_ne (tgt := 41) C (zR z_x4) h dX7_goSelect_35 (by decide) (fun hc35 h => ?_) (fun hc35 h => ?_)
        · refine jr_ldc (n := -1000002) C q_748 (by decide) dX7_goSelect_38 ?_
          exact jr_iret C B hr hlocks (jkc rfl) h dX7_goSelect_40
        · refine jr_iconst C dX7_goSelect_41 ?_
          refine lv_istore (lv' := [(6, .int (jI 0)), (0, .ref (jD G o)), (1, .int (jI a1)), (2, .int (jI a2)), (3, .int (jI a3)), (4, .int (jI a4)), (5, .int (jI a5))]) C.1 C.2.1 dX7_goSelect_42 hl (by decide) rfl (fun ls hl => ?_)
          obtain ⟨kx44, hkx44, h⟩ : ∃ kx44 : jM → Prop, (∀ (M7 : jM) (H : Heap) (locs : List Loc) (ls : Array Slot), kx44 M7 → Hp G M7 s.heap H locs → lv_has ls 8 [(0, .ref (jD G o)), (5, .int (jI a5))] → W p l e (rmm 6 142) s m args below meth c H locs 0 0 (MQ below (qI G k) args s 0 0 (gA G)) (F0 m 97 ls [])) ∧ lp_X7_goSelect_44 N o a1 a2 a3 a4 a5 kx44 N 0 M := by
            refine ⟨_, ?_, h⟩
            intro M7 H locs ls h  B hl
            have o_M7 := B.2.2
            refine lv_aload_n C.1 C.2.1 dX7_goSelect_97 rfl (lv_at hl 0 rfl) ?_
            refine lv_iload C.1 C.2.1 dX7_goSelect_98 (lv_at hl 1 rfl) ?_
            refine cl_X7_sizeOf C hl.1 B q_1017 ⟨Nat.le_of_ble_eq_true rfl, Nat.le_of_ble_eq_true rfl⟩ ⟨Nat.zero_le _, Nat.zero_le _⟩ (Nat.le_of_ble_eq_true rfl) k_o r_a5 h dX7_goSelect_100 (fun x8 r_x8 _ _ h B => ?_)
            exact jr_iret C B hr hlocks r_x8 h dX7_goSelect_103
          have hL44 : ∀ (n : Nat) (x5 : Int) (M6 : jM) (H : Heap) (locs : List Loc) (ls : Array Slot), lp_X7_goSelect_44 N o a1 a2 a3 a4 a5 kx44 n x5 M6 → jR x5 → Hp G M6 s.heap H locs → lv_has ls 8 [(6, .int (jI x5)), (0, .ref (jD G o)), (1, .int (jI a1)), (2, .int (jI a2)), (3, .int (jI a3)), (4, .int (jI a4)), (5, .int (jI a5))] → W p l e (rmm 6 142) s m args below meth c H locs 0 0 (MQ below (qI G k) args s 0 0 (gA G)) (F0 m 44 ls []) := by
            intro n
            induction n with
            | zero => intro x5 M6 H locs ls h; exact (show False from h).elim
            | succ n ih44 =>
              intro x5 M6 H locs ls h r_x5 B hl
              have o_M6 := B.2.2
              rw [lp_X7_goSelect_44] at h
              refine lv_iload C.1 C.2.1 dX7_goSelect_44 (lv_at hl 0 rfl) ?_
              refine jr_bipush C dX7_goSelect_46 (by decide) ?_
              refine jr_icmp_ge (tgt := 97) C r_x5 (jkc rfl) h dX7_goSelect_48 (by decide) (fun hc48 h => ?_) (fun hc48 h => ?_)
              · refine lv_aload_n C.1 C.2.1 dX7_goSelect_51 rfl (lv_at hl 1 rfl) ?_
                refine lv_iload C.1 C.2.1 dX7_goSelect_52 (lv_at hl 0 rfl) ?_
                refine cl_X7_placeOf C hl.1 B q_749 ⟨Nat.le_of_ble_eq_true rfl, Nat.le_of_ble_eq_true rfl⟩ ⟨Nat.zero_le _, Nat.zero_le _⟩ (Nat.le_of_ble_eq_true rfl) k_o r_x5 h dX7_goSelect_54 (fun x9 r_x9 _ _ h B => ?_)
                refine lv_istore (lv' := [(7, .int (jI x9)), (6, .int (jI x5)), (0, .ref (jD G o)), (1, .int (jI a1)), (2, .int (jI a2)), (3, .int (jI a3)), (4, .int (jI a4)), (5, .int (jI a5))]) C.1 C.2.1 dX7_goSelect_57 hl (by decide) rfl (fun ls hl => ?_)
                refine lv_aload_n C.1 C.2.1 dX7_goSelect_59 rfl (lv_at hl 2 rfl) ?_
                refine lv_iload C.1 C.2.1 dX7_goSelect_60 (lv_at hl 7 rfl) ?_
                refine lv_iload C.1 C.2.1 dX7_goSelect_62 (lv_at hl 1 rfl) ?_
                refine lv_iload C.1 C.2.1 dX7_goSelect_64 (lv_at hl 0 rfl) ?_
                refine jr_if_lt (tgt := 87) C r_x9 h dX7_goSelect_66 (by decide) (fun hc66 h => ?_) (fun hc66 h => ?_)
                · refine jr_iconst C dX7_goSelect_87 ?_
                  refine cl_X7_laysIn C hl.1 B q_1013 ⟨Nat.le_of_ble_eq_true rfl, Nat.le_of_ble_eq_true rfl⟩ ⟨Nat.zero_le _, Nat.zero_le _⟩ (Nat.le_of_ble_eq_true rfl) k_o r_a5 r_x5 (Or.inl rfl) h dX7_goSelect_88 (fun M10 _ _ h B => ?_)
                  have o_M10 := B.2.2
                  refine jr_iinc (k := 1) (lv' := fun x11 => [(6, .int (jI x11)), (7, .int (jI x9)), (0, .ref (jD G o)), (1, .int (jI a1)), (2, .int (jI a2)), (3, .int (jI a3)), (4, .int (jI a4)), (5, .int (jI a5))]) C h hl rfl (by decide) (fun _ => rfl) dX7_goSelect_91 (fun x11 h r_x11 ls hl => ?_)
                  refine lv_goto (tgt := 44) C.1 C.2.1 dX7_goSelect_94 (by decide) ?_
                  exact ih44 _ _ _ _ _ h r_x11 B (lv_sub hl [0, 2, 3, 4, 5, 6, 7] rfl)
                · refine lv_aload_n C.1 C.2.1 dX7_goSelect_69 rfl (lv_at hl 2 rfl) ?_
                  refine lv_iload C.1 C.2.1 dX7_goSelect_70 (lv_at hl 0 rfl) ?_
                  refine lv_iload_n C.1 C.2.1 dX7_goSelect_72 rfl (lv_at hl 3 rfl) ?_
                  refine lv_iload_n C.1 C.2.1 dX7_goSelect_73 rfl (lv_at hl 4 rfl) ?_
                  refine lv_iload_n C.1 C.2.1 dX7_goSelect_74 rfl (lv_at hl 5 rfl) ?_
                  refine lv_iload C.1 C.2.1 dX7_goSelect_75 (lv_at hl 6 rfl) ?_
                  refine cl_X7_isSelected C hl.1 B q_982 ⟨Nat.le_of_ble_eq_true rfl, Nat.le_of_ble_eq_true rfl⟩ ⟨Nat.zero_le _, Nat.zero_le _⟩ (Nat.le_of_ble_eq_true rfl) k_o r_x9 r_a1 r_a2 r_a3 z_a4 h dX7_goSelect_77 (fun x12 M13 z_x12 _ _ h B => ?_)
                  have o_M13 := B.2.2
                  refine jr_if_eq (tgt := 87) C (zR z_x12) h dX7_goSelect_80 (by decide) (fun hc80 h => ?_) (fun hc80 h => ?_)
                  · refine jr_iconst C dX7_goSelect_87 ?_
                    refine cl_X7_laysIn C hl.1 B q_1013 ⟨Nat.le_of_ble_eq_true rfl, Nat.le_of_ble_eq_true rfl⟩ ⟨Nat.zero_le _, Nat.zero_le _⟩ (Nat.le_of_ble_eq_true rfl) k_o r_a5 r_x5 (Or.inl rfl) h dX7_goSelect_88 (fun M14 _ _ h B => ?_)
                    have o_M14 := B.2.2
                    refine jr_iinc (k := 1) (lv' := fun x15 => [(6, .int (jI x15)), (7, .int (jI x9)), (0, .ref (jD G o)), (1, .int (jI a1)), (2, .int (jI a2)), (3, .int (jI a3)), (4, .int (jI a4)), (5, .int (jI a5))]) C h hl rfl (by decide) (fun _ => rfl) dX7_goSelect_91 (fun x15 h r_x15 ls hl => ?_)
                    refine lv_goto (tgt := 44) C.1 C.2.1 dX7_goSelect_94 (by decide) ?_
                    exact ih44 _ _ _ _ _ h r_x15 B (lv_sub hl [0, 2, 3, 4, 5, 6, 7] rfl)
                  · refine jr_iconst C dX7_goSelect_83 ?_
                    refine lv_goto (tgt := 88) C.1 C.2.1 dX7_goSelect_84 (by decide) ?_
                    refine cl_X7_laysIn C hl.1 B q_1013 ⟨Nat.le_of_ble_eq_true rfl, Nat.le_of_ble_eq_true rfl⟩ ⟨Nat.zero_le _, Nat.zero_le _⟩ (Nat.le_of_ble_eq_true rfl) k_o r_a5 r_x5 (Or.inr rfl) h dX7_goSelect_88 (fun M16 _ _ h B => ?_)
                    have o_M16 := B.2.2
                    refine jr_iinc (k := 1) (lv' := fun x17 => [(6, .int (jI x17)), (7, .int (jI x9)), (0, .ref (jD G o)), (1, .int (jI a1)), (2, .int (jI a2)), (3, .int (jI a3)), (4, .int (jI a4)), (5, .int (jI a5))]) C h hl rfl (by decide) (fun _ => rfl) dX7_goSelect_91 (fun x17 h r_x17 ls hl => ?_)
                    refine lv_goto (tgt := 44) C.1 C.2.1 dX7_goSelect_94 (by decide) ?_
                    exact ih44 _ _ _ _ _ h r_x17 B (lv_sub hl [0, 2, 3, 4, 5, 6, 7] rfl)
              · exact hkx44 _ _ _ _ h  B (lv_sub hl [1, 6] rfl)
          exact hL44 N _ _ _ _ _ h (jkc rfl) B (lv_sub hl [0, 1, 2, 3, 4, 5, 6] rfl)
theorem cl_X7_goSelect {p : Program} {l : Launch} {e : Env} {R : Room} {s : State} {m : MethodId} {args : Array Value} {below : List Frame} {meth : Method} {c : Code} {H : Heap} {locs : List Loc} {cells slots : Nat} {Q : State → Prop} {cc : ByteArray} {nL : Nat} {own : String} {G : jG} {H0 : Heap} {pc idx : Nat} {ls : Array Slot} {rest : List Value} {N : Nat} {M : jM} {o a1 a2 a3 a4 a5 : Int} {k : Int → jM → Prop} (C : Cx G p s args m c cc nL own) (hl : ls.size = nL) (B : Hp G M H0 H locs) (q1 : Cond.methodLink own idx yX7_goSelect ∈ tb) (hR : (rmm 6 142).frames + 1 ≤ R.frames ∧ 8 + (8 + 11) + (rmm 6 142).locals ≤ R.locals) (hcs : cells ≤ R.cells ∧ slots ≤ R.slots) (hW : (rest.map fun v => v.category).sum ≤ 8) (k_o : jK o = 8) (r_a1 : jR a1) (r_a2 : jR a2) (r_a3 : jR a3) (z_a4 : a4 = 0 ∨ a4 = 1) (r_a5 : jR a5) (h : w_X7_goSelect N M o a1 a2 a3 a4 a5 k) (hdg : decode cc pc = .ok (.invokevirtual idx, 3)) (kk : ∀ (r : Int) (M' : jM), jR r → ∀ (H1 : Heap) (locs1 : List Loc), k r M' → Hp G M' H0 H1 locs1 → W p l e R s m args below meth c H1 locs1 cells slots Q (F0 m (pc + 3) ls (.int (jI r) :: rest))) : W p l e R s m args below meth c H locs cells slots Q (F0 m pc ls (.int (jI a5) :: .int (jI a4) :: .int (jI a3) :: .int (jI a2) :: .int (jI a1) :: .ref (jD G o) :: rest)) :=
  jr_callI B (jr_runV (o := o) (As := [.int (jI a1), .int (jI a2), .int (jI a3), .int (jI a4), .int (jI a5)]) (n := 5) C hl B (m_X7_goSelect B.2.2 k_o r_a1 r_a2 r_a3 z_a4 r_a5 h) (jE8 k_o) (by omega) rfl q1 q_975 qs_58 q_976 q_8 ⟨by decide, by decide, by decide +kernel⟩ rfl ⟨rfl, rfl⟩ hR hcs rfl hW hdg) (fun r M' H1 locs1 hr hk B1 => kk r M' hr H1 locs1 hk B1)
def lp_X7_goCombine_40 (o : Int) (a1 : Int) (a2 : Int) (a3 : Int) (a4 : Int) (kx40 : jM → Prop) : Nat → Int → jM → Prop
  | 0, _, _ => False
  | n + 1, x5, M6 => (if x5 < 100 then (w_X7_isIn M6 o a2 x5 (fun x9 => (w_X7_isIn M6 o a3 x5 (fun x10 => (if a1 = 0 then (if x9 = 0 then (w_X7_laysIn M6 o a4 x5 0 (fun M11 => (jL (jW (x5 + 1)) (fun x12 => (lp_X7_goCombine_40 o a1 a2 a3 a4 kx40 n x12 M11))))) else (if x10 = 0 then (w_X7_laysIn M6 o a4 x5 0 (fun M13 => (jL (jW (x5 + 1)) (fun x14 => (lp_X7_goCombine_40 o a1 a2 a3 a4 kx40 n x14 M13))))) else (w_X7_laysIn M6 o a4 x5 1 (fun M15 => (jL (jW (x5 + 1)) (fun x16 => (lp_X7_goCombine_40 o a1 a2 a3 a4 kx40 n x16 M15))))))) else (if a1 = 1 then (if x9 = 0 then (if x10 = 0 then (w_X7_laysIn M6 o a4 x5 0 (fun M17 => (jL (jW (x5 + 1)) (fun x18 => (lp_X7_goCombine_40 o a1 a2 a3 a4 kx40 n x18 M17))))) else (w_X7_laysIn M6 o a4 x5 1 (fun M19 => (jL (jW (x5 + 1)) (fun x20 => (lp_X7_goCombine_40 o a1 a2 a3 a4 kx40 n x20 M19)))))) else (w_X7_laysIn M6 o a4 x5 1 (fun M21 => (jL (jW (x5 + 1)) (fun x22 => (lp_X7_goCombine_40 o a1 a2 a3 a4 kx40 n x22 M21)))))) else (if x9 = 0 then (w_X7_laysIn M6 o a4 x5 0 (fun M23 => (jL (jW (x5 + 1)) (fun x24 => (lp_X7_goCombine_40 o a1 a2 a3 a4 kx40 n x24 M23))))) else (if x10 = 0 then (w_X7_laysIn M6 o a4 x5 1 (fun M25 => (jL (jW (x5 + 1)) (fun x26 => (lp_X7_goCombine_40 o a1 a2 a3 a4 kx40 n x26 M25))))) else (w_X7_laysIn M6 o a4 x5 0 (fun M27 => (jL (jW (x5 + 1)) (fun x28 => (lp_X7_goCombine_40 o a1 a2 a3 a4 kx40 n x28 M27))))))))))))) else (kx40 M6))
def w_X7_goCombine (N : Nat) (M : jM) (o : Int) (a1 : Int) (a2 : Int) (a3 : Int) (a4 : Int) (k : Int → jM → Prop) : Prop := (w_X7_isList a2 (fun x1 => (if x1 = 0 then (k (-1000001) M) else (w_X7_isList a3 (fun x2 => (if x2 = 0 then (k (-1000001) M) else (w_X7_isList a4 (fun x3 => (if x3 = 0 then (k (-1000001) M) else (w_X7_in a1 0 2 (fun x4 => (if x4 = 0 then (k (-1000002) M) else (lp_X7_goCombine_40 o a1 a2 a3 a4 (fun (M7 : jM) => (w_X7_sizeOf N M7 o a4 (fun x8 => (k x8 M7)))) N 0 M)))))))))))))
set_option maxHeartbeats 4000000 in
set_option maxRecDepth 100000 in
theorem m_X7_goCombine {l : Launch} {G : jG} {N : Nat} {M : jM} {o a1 a2 a3 a4 : Int} {k : Int → jM → Prop} (o_M : jOK M) (k_o : jK o = 8) (r_a1 : jR a1) (r_a2 : jR a2) (r_a3 : jR a3) (r_a4 : jR a4) (h : w_X7_goCombine N M o a1 a2 a3 a4 k) : Met l yX7_goCombine (wsG yX7_goCombine cX7_goCombine 8 (some .int)) (rmm 2 45) (jPc G M [.ref (jD G o), .int (jI a1), .int (jI a2), .int (jI a3), .int (jI a4)]) (qI G k) 0 0 (gA G) := by
  refine jm_start RX7 rfl (by decide) (Nat.le_of_ble_eq_true rfl) o_M ?_
  intro p e s m args below meth c ls C hr hlocks hl B
  have hl : lv_has ls 8 [(0, .ref (jD G o)), (1, .int (jI a1)), (2, .int (jI a2)), (3, .int (jI a3)), (4, .int (jI a4))] := hl
  unfold w_X7_goCombine at h
  refine lv_iload_n C.1 C.2.1 dX7_goCombine_0 rfl (lv_at hl 2 rfl) ?_
  refine cl_X7_isList C hl.1 B q_977 ⟨Nat.le_of_ble_eq_true rfl, Nat.le_of_ble_eq_true rfl⟩ ⟨Nat.zero_le _, Nat.zero_le _⟩ (Nat.le_of_ble_eq_true rfl) r_a2 h dX7_goCombine_1 (fun x1 z_x1 _ _ h B => ?_)
  refine jr_if_eq (tgt := 22) C (zR z_x1) h dX7_goCombine_4 (by decide) (fun hc4 h => ?_) (fun hc4 h => ?_)
  · refine jr_ldc (n := -1000001) C q_753 (by decide) dX7_goCombine_22 ?_
    exact jr_iret C B hr hlocks (jkc rfl) h dX7_goCombine_24
  · refine lv_iload_n C.1 C.2.1 dX7_goCombine_7 rfl (lv_at hl 3 rfl) ?_
    refine cl_X7_isList C hl.1 B q_977 ⟨Nat.le_of_ble_eq_true rfl, Nat.le_of_ble_eq_true rfl⟩ ⟨Nat.zero_le _, Nat.zero_le _⟩ (Nat.le_of_ble_eq_true rfl) r_a3 h dX7_goCombine_8 (fun x2 z_x2 _ _ h B => ?_)
    refine jr_if_eq (tgt := 22) C (zR z_x2) h dX7_goCombine_11 (by decide) (fun hc11 h => ?_) (fun hc11 h => ?_)
    · refine jr_ldc (n := -1000001) C q_753 (by decide) dX7_goCombine_22 ?_
      exact jr_iret C B hr hlocks (jkc rfl) h dX7_goCombine_24
    · refine lv_iload C.1 C.2.1 dX7_goCombine_14 (lv_at hl 4 rfl) ?_
      refine cl_X7_isList C hl.1 B q_977 ⟨Nat.le_of_ble_eq_true rfl, Nat.le_of_ble_eq_true rfl⟩ ⟨Nat.zero_le _, Nat.zero_le _⟩ (Nat.le_of_ble_eq_true rfl) r_a4 h dX7_goCombine_16 (fun x3 z_x3 _ _ h B => ?_)
      refine jr_if_ne (tgt := 25) C (zR z_x3) h dX7_goCombine_19 (by decide) (fun hc19 h => ?_) (fun hc19 h => ?_)
      · refine jr_ldc (n := -1000001) C q_753 (by decide) dX7_goCombine_22 ?_
        exact jr_iret C B hr hlocks (jkc rfl) h dX7_goCombine_24
      · refine lv_iload_n C.1 C.2.1 dX7_goCombine_25 rfl (lv_at hl 1 rfl) ?_
        refine jr_iconst C dX7_goCombine_26 ?_
        refine jr_iconst C dX7_goCombine_27 ?_
        refine cl_X7_in C hl.1 B q_745 ⟨Nat.le_of_ble_eq_true rfl, Nat.le_of_ble_eq_true rfl⟩ ⟨Nat.zero_le _, Nat.zero_le _⟩ (Nat.le_of_ble_eq_true rfl) r_a1 (jkc rfl) (jkc rfl) h dX7_goCombine_28 (fun x4 z_x4 _ _ h B => ?_)
        refine jr_if_ne (tgt := 37) C (zR z_x4) h dX7_goCombine_31 (by decide) (fun hc31 h => ?_) (fun hc31 h => ?_)
        · refine jr_ldc (n := -1000002) C q_748 (by decide) dX7_goCombine_34 ?_
          exact jr_iret C B hr hlocks (jkc rfl) h dX7_goCombine_36
        · refine jr_iconst C dX7_goCombine_37 ?_
          refine lv_istore (lv' := [(5, .int (jI 0)), (0, .ref (jD G o)), (1, .int (jI a1)), (2, .int (jI a2)), (3, .int (jI a3)), (4, .int (jI a4))]) C.1 C.2.1 dX7_goCombine_38 hl (by decide) rfl (fun ls hl => ?_)
          obtain ⟨kx40, hkx40, h⟩ : ∃ kx40 : jM → Prop, (∀ (M7 : jM) (H : Heap) (locs : List Loc) (ls : Array Slot), kx40 M7 → Hp G M7 s.heap H locs → lv_has ls 8 [(0, .ref (jD G o)), (4, .int (jI a4))] → W p l e (rmm 2 45) s m args below meth c H locs 0 0 (MQ below (qI G k) args s 0 0 (gA G)) (F0 m 139 ls [])) ∧ lp_X7_goCombine_40 o a1 a2 a3 a4 kx40 N 0 M := by
            refine ⟨_, ?_, h⟩
            intro M7 H locs ls h  B hl
            have o_M7 := B.2.2
            refine lv_aload_n C.1 C.2.1 dX7_goCombine_139 rfl (lv_at hl 0 rfl) ?_
            refine lv_iload C.1 C.2.1 dX7_goCombine_140 (lv_at hl 1 rfl) ?_
            refine cl_X7_sizeOf C hl.1 B q_1017 ⟨Nat.le_of_ble_eq_true rfl, Nat.le_of_ble_eq_true rfl⟩ ⟨Nat.zero_le _, Nat.zero_le _⟩ (Nat.le_of_ble_eq_true rfl) k_o r_a4 h dX7_goCombine_142 (fun x8 r_x8 _ _ h B => ?_)
            exact jr_iret C B hr hlocks r_x8 h dX7_goCombine_145
          have hL40 : ∀ (n : Nat) (x5 : Int) (M6 : jM) (H : Heap) (locs : List Loc) (ls : Array Slot), lp_X7_goCombine_40 o a1 a2 a3 a4 kx40 n x5 M6 → jR x5 → Hp G M6 s.heap H locs → lv_has ls 8 [(5, .int (jI x5)), (0, .ref (jD G o)), (1, .int (jI a1)), (2, .int (jI a2)), (3, .int (jI a3)), (4, .int (jI a4))] → W p l e (rmm 2 45) s m args below meth c H locs 0 0 (MQ below (qI G k) args s 0 0 (gA G)) (F0 m 40 ls []) := by
            intro n
            induction n with
            | zero => intro x5 M6 H locs ls h; exact (show False from h).elim
            | succ n ih40 =>
              intro x5 M6 H locs ls h r_x5 B hl
              have o_M6 := B.2.2
              rw [lp_X7_goCombine_40] at h
              refine lv_iload C.1 C.2.1 dX7_goCombine_40 (lv_at hl 0 rfl) ?_
              refine jr_bipush C dX7_goCombine_42 (by decide) ?_
              refine jr_icmp_ge (tgt := 139) C r_x5 (jkc rfl) h dX7_goCombine_44 (by decide) (fun hc44 h => ?_) (fun hc44 h => ?_)
              · refine lv_aload_n C.1 C.2.1 dX7_goCombine_47 rfl (lv_at hl 1 rfl) ?_
                refine lv_iload_n C.1 C.2.1 dX7_goCombine_48 rfl (lv_at hl 3 rfl) ?_
                refine lv_iload C.1 C.2.1 dX7_goCombine_49 (lv_at hl 0 rfl) ?_
                refine cl_X7_isIn C hl.1 B q_1021 ⟨Nat.le_of_ble_eq_true rfl, Nat.le_of_ble_eq_true rfl⟩ ⟨Nat.zero_le _, Nat.zero_le _⟩ (Nat.le_of_ble_eq_true rfl) k_o r_a2 r_x5 h dX7_goCombine_51 (fun x9 z_x9 _ _ h B => ?_)
                refine lv_istore (lv' := [(6, .int (jI x9)), (5, .int (jI x5)), (0, .ref (jD G o)), (1, .int (jI a1)), (2, .int (jI a2)), (3, .int (jI a3)), (4, .int (jI a4))]) C.1 C.2.1 dX7_goCombine_54 hl (by decide) rfl (fun ls hl => ?_)
                refine lv_aload_n C.1 C.2.1 dX7_goCombine_56 rfl (lv_at hl 2 rfl) ?_
                refine lv_iload_n C.1 C.2.1 dX7_goCombine_57 rfl (lv_at hl 5 rfl) ?_
                refine lv_iload C.1 C.2.1 dX7_goCombine_58 (lv_at hl 1 rfl) ?_
                refine cl_X7_isIn C hl.1 B q_1021 ⟨Nat.le_of_ble_eq_true rfl, Nat.le_of_ble_eq_true rfl⟩ ⟨Nat.zero_le _, Nat.zero_le _⟩ (Nat.le_of_ble_eq_true rfl) k_o r_a3 r_x5 h dX7_goCombine_60 (fun x10 z_x10 _ _ h B => ?_)
                refine lv_istore (lv' := [(7, .int (jI x10)), (6, .int (jI x9)), (5, .int (jI x5)), (0, .ref (jD G o)), (1, .int (jI a1)), (2, .int (jI a2)), (3, .int (jI a3)), (4, .int (jI a4))]) C.1 C.2.1 dX7_goCombine_63 hl (by decide) rfl (fun ls hl => ?_)
                refine lv_aload_n C.1 C.2.1 dX7_goCombine_65 rfl (lv_at hl 3 rfl) ?_
                refine lv_iload C.1 C.2.1 dX7_goCombine_66 (lv_at hl 7 rfl) ?_
                refine lv_iload C.1 C.2.1 dX7_goCombine_68 (lv_at hl 2 rfl) ?_
                refine lv_iload_n C.1 C.2.1 dX7_goCombine_70 rfl (lv_at hl 4 rfl) ?_
                refine jr_if_ne (tgt := 92) C r_a1 h dX7_goCombine_71 (by decide) (fun hc71 h => ?_) (fun hc71 h => ?_)
                · refine lv_iload C.1 C.2.1 dX7_goCombine_74 (lv_at hl 1 rfl) ?_
                  refine jr_if_eq (tgt := 88) C (zR z_x9) h dX7_goCombine_76 (by decide) (fun hc76 h => ?_) (fun hc76 h => ?_)
                  · refine jr_iconst C dX7_goCombine_88 ?_
                    refine lv_goto (tgt := 130) C.1 C.2.1 dX7_goCombine_89 (by decide) ?_
                    refine cl_X7_laysIn C hl.1 B q_1013 ⟨Nat.le_of_ble_eq_true rfl, Nat.le_of_ble_eq_true rfl⟩ ⟨Nat.zero_le _, Nat.zero_le _⟩ (Nat.le_of_ble_eq_true rfl) k_o r_a4 r_x5 (Or.inl rfl) h dX7_goCombine_130 (fun M11 _ _ h B => ?_)
                    have o_M11 := B.2.2
                    refine jr_iinc (k := 2) (lv' := fun x12 => [(5, .int (jI x12)), (7, .int (jI x10)), (6, .int (jI x9)), (0, .ref (jD G o)), (1, .int (jI a1)), (2, .int (jI a2)), (3, .int (jI a3)), (4, .int (jI a4))]) C h hl rfl (by decide) (fun _ => rfl) dX7_goCombine_133 (fun x12 h r_x12 ls hl => ?_)
                    refine lv_goto (tgt := 40) C.1 C.2.1 dX7_goCombine_136 (by decide) ?_
                    exact ih40 _ _ _ _ _ h r_x12 B (lv_sub hl [0, 3, 4, 5, 6, 7] rfl)
                  · refine lv_iload C.1 C.2.1 dX7_goCombine_79 (lv_at hl 0 rfl) ?_
                    refine jr_if_eq (tgt := 88) C (zR z_x10) h dX7_goCombine_81 (by decide) (fun hc81 h => ?_) (fun hc81 h => ?_)
                    · refine jr_iconst C dX7_goCombine_88 ?_
                      refine lv_goto (tgt := 130) C.1 C.2.1 dX7_goCombine_89 (by decide) ?_
                      refine cl_X7_laysIn C hl.1 B q_1013 ⟨Nat.le_of_ble_eq_true rfl, Nat.le_of_ble_eq_true rfl⟩ ⟨Nat.zero_le _, Nat.zero_le _⟩ (Nat.le_of_ble_eq_true rfl) k_o r_a4 r_x5 (Or.inl rfl) h dX7_goCombine_130 (fun M13 _ _ h B => ?_)
                      have o_M13 := B.2.2
                      refine jr_iinc (k := 2) (lv' := fun x14 => [(5, .int (jI x14)), (7, .int (jI x10)), (6, .int (jI x9)), (0, .ref (jD G o)), (1, .int (jI a1)), (2, .int (jI a2)), (3, .int (jI a3)), (4, .int (jI a4))]) C h hl rfl (by decide) (fun _ => rfl) dX7_goCombine_133 (fun x14 h r_x14 ls hl => ?_)
                      refine lv_goto (tgt := 40) C.1 C.2.1 dX7_goCombine_136 (by decide) ?_
                      exact ih40 _ _ _ _ _ h r_x14 B (lv_sub hl [0, 3, 4, 5, 6, 7] rfl)
                    · refine jr_iconst C dX7_goCombine_84 ?_
                      refine lv_goto (tgt := 130) C.1 C.2.1 dX7_goCombine_85 (by decide) ?_
                      refine cl_X7_laysIn C hl.1 B q_1013 ⟨Nat.le_of_ble_eq_true rfl, Nat.le_of_ble_eq_true rfl⟩ ⟨Nat.zero_le _, Nat.zero_le _⟩ (Nat.le_of_ble_eq_true rfl) k_o r_a4 r_x5 (Or.inr rfl) h dX7_goCombine_130 (fun M15 _ _ h B => ?_)
                      have o_M15 := B.2.2
                      refine jr_iinc (k := 2) (lv' := fun x16 => [(5, .int (jI x16)), (7, .int (jI x10)), (6, .int (jI x9)), (0, .ref (jD G o)), (1, .int (jI a1)), (2, .int (jI a2)), (3, .int (jI a3)), (4, .int (jI a4))]) C h hl rfl (by decide) (fun _ => rfl) dX7_goCombine_133 (fun x16 h r_x16 ls hl => ?_)
                      refine lv_goto (tgt := 40) C.1 C.2.1 dX7_goCombine_136 (by decide) ?_
                      exact ih40 _ _ _ _ _ h r_x16 B (lv_sub hl [0, 3, 4, 5, 6, 7] rfl)
                · refine lv_iload_n C.1 C.2.1 dX7_goCombine_92 rfl (lv_at hl 4 rfl) ?_
                  refine jr_iconst C dX7_goCombine_93 ?_
                  refine jr_icmp_ne (tgt := 115) C r_a1 (jkc rfl) h dX7_goCombine_94 (by decide) (fun hc94 h => ?_) (fun hc94 h => ?_)
                  · refine lv_iload C.1 C.2.1 dX7_goCombine_97 (lv_at hl 1 rfl) ?_
                    refine jr_if_ne (tgt := 107) C (zR z_x9) h dX7_goCombine_99 (by decide) (fun hc99 h => ?_) (fun hc99 h => ?_)
                    · refine lv_iload C.1 C.2.1 dX7_goCombine_102 (lv_at hl 0 rfl) ?_
                      refine jr_if_eq (tgt := 111) C (zR z_x10) h dX7_goCombine_104 (by decide) (fun hc104 h => ?_) (fun hc104 h => ?_)
                      · refine jr_iconst C dX7_goCombine_111 ?_
                        refine lv_goto (tgt := 130) C.1 C.2.1 dX7_goCombine_112 (by decide) ?_
                        refine cl_X7_laysIn C hl.1 B q_1013 ⟨Nat.le_of_ble_eq_true rfl, Nat.le_of_ble_eq_true rfl⟩ ⟨Nat.zero_le _, Nat.zero_le _⟩ (Nat.le_of_ble_eq_true rfl) k_o r_a4 r_x5 (Or.inl rfl) h dX7_goCombine_130 (fun M17 _ _ h B => ?_)
                        have o_M17 := B.2.2
                        refine jr_iinc (k := 2) (lv' := fun x18 => [(5, .int (jI x18)), (7, .int (jI x10)), (6, .int (jI x9)), (0, .ref (jD G o)), (1, .int (jI a1)), (2, .int (jI a2)), (3, .int (jI a3)), (4, .int (jI a4))]) C h hl rfl (by decide) (fun _ => rfl) dX7_goCombine_133 (fun x18 h r_x18 ls hl => ?_)
                        refine lv_goto (tgt := 40) C.1 C.2.1 dX7_goCombine_136 (by decide) ?_
                        exact ih40 _ _ _ _ _ h r_x18 B (lv_sub hl [0, 3, 4, 5, 6, 7] rfl)
                      · refine jr_iconst C dX7_goCombine_107 ?_
                        refine lv_goto (tgt := 130) C.1 C.2.1 dX7_goCombine_108 (by decide) ?_
                        refine cl_X7_laysIn C hl.1 B q_1013 ⟨Nat.le_of_ble_eq_true rfl, Nat.le_of_ble_eq_true rfl⟩ ⟨Nat.zero_le _, Nat.zero_le _⟩ (Nat.le_of_ble_eq_true rfl) k_o r_a4 r_x5 (Or.inr rfl) h dX7_goCombine_130 (fun M19 _ _ h B => ?_)
                        have o_M19 := B.2.2
                        refine jr_iinc (k := 2) (lv' := fun x20 => [(5, .int (jI x20)), (7, .int (jI x10)), (6, .int (jI x9)), (0, .ref (jD G o)), (1, .int (jI a1)), (2, .int (jI a2)), (3, .int (jI a3)), (4, .int (jI a4))]) C h hl rfl (by decide) (fun _ => rfl) dX7_goCombine_133 (fun x20 h r_x20 ls hl => ?_)
                        refine lv_goto (tgt := 40) C.1 C.2.1 dX7_goCombine_136 (by decide) ?_
                        exact ih40 _ _ _ _ _ h r_x20 B (lv_sub hl [0, 3, 4, 5, 6, 7] rfl)
                    · refine jr_iconst C dX7_goCombine_107 ?_
                      refine lv_goto (tgt := 130) C.1 C.2.1 dX7_goCombine_108 (by decide) ?_
                      refine cl_X7_laysIn C hl.1 B q_1013 ⟨Nat.le_of_ble_eq_true rfl, Nat.le_of_ble_eq_true rfl⟩ ⟨Nat.zero_le _, Nat.zero_le _⟩ (Nat.le_of_ble_eq_true rfl) k_o r_a4 r_x5 (Or.inr rfl) h dX7_goCombine_130 (fun M21 _ _ h B => ?_)
                      have o_M21 := B.2.2
                      refine jr_iinc (k := 2) (lv' := fun x22 => [(5, .int (jI x22)), (7, .int (jI x10)), (6, .int (jI x9)), (0, .ref (jD G o)), (1, .int (jI a1)), (2, .int (jI a2)), (3, .int (jI a3)), (4, .int (jI a4))]) C h hl rfl (by decide) (fun _ => rfl) dX7_goCombine_133 (fun x22 h r_x22 ls hl => ?_)
                      refine lv_goto (tgt := 40) C.1 C.2.1 dX7_goCombine_136 (by decide) ?_
                      exact ih40 _ _ _ _ _ h r_x22 B (lv_sub hl [0, 3, 4, 5, 6, 7] rfl)
                  · refine lv_iload C.1 C.2.1 dX7_goCombine_115 (lv_at hl 1 rfl) ?_
                    refine jr_if_eq (tgt := 129) C (zR z_x9) h dX7_goCombine_117 (by decide) (fun hc117 h => ?_) (fun hc117 h => ?_)
                    · refine jr_iconst C dX7_goCombine_129 ?_
                      refine cl_X7_laysIn C hl.1 B q_1013 ⟨Nat.le_of_ble_eq_true rfl, Nat.le_of_ble_eq_true rfl⟩ ⟨Nat.zero_le _, Nat.zero_le _⟩ (Nat.le_of_ble_eq_true rfl) k_o r_a4 r_x5 (Or.inl rfl) h dX7_goCombine_130 (fun M23 _ _ h B => ?_)
                      have o_M23 := B.2.2
                      refine jr_iinc (k := 2) (lv' := fun x24 => [(5, .int (jI x24)), (7, .int (jI x10)), (6, .int (jI x9)), (0, .ref (jD G o)), (1, .int (jI a1)), (2, .int (jI a2)), (3, .int (jI a3)), (4, .int (jI a4))]) C h hl rfl (by decide) (fun _ => rfl) dX7_goCombine_133 (fun x24 h r_x24 ls hl => ?_)
                      refine lv_goto (tgt := 40) C.1 C.2.1 dX7_goCombine_136 (by decide) ?_
                      exact ih40 _ _ _ _ _ h r_x24 B (lv_sub hl [0, 3, 4, 5, 6, 7] rfl)
                    · refine lv_iload C.1 C.2.1 dX7_goCombine_120 (lv_at hl 0 rfl) ?_
                      refine jr_if_ne (tgt := 129) C (zR z_x10) h dX7_goCombine_122 (by decide) (fun hc122 h => ?_) (fun hc122 h => ?_)
                      · refine jr_iconst C dX7_goCombine_125 ?_
                        refine lv_goto (tgt := 130) C.1 C.2.1 dX7_goCombine_126 (by decide) ?_
                        refine cl_X7_laysIn C hl.1 B q_1013 ⟨Nat.le_of_ble_eq_true rfl, Nat.le_of_ble_eq_true rfl⟩ ⟨Nat.zero_le _, Nat.zero_le _⟩ (Nat.le_of_ble_eq_true rfl) k_o r_a4 r_x5 (Or.inr rfl) h dX7_goCombine_130 (fun M25 _ _ h B => ?_)
                        have o_M25 := B.2.2
                        refine jr_iinc (k := 2) (lv' := fun x26 => [(5, .int (jI x26)), (7, .int (jI x10)), (6, .int (jI x9)), (0, .ref (jD G o)), (1, .int (jI a1)), (2, .int (jI a2)), (3, .int (jI a3)), (4, .int (jI a4))]) C h hl rfl (by decide) (fun _ => rfl) dX7_goCombine_133 (fun x26 h r_x26 ls hl => ?_)
                        refine lv_goto (tgt := 40) C.1 C.2.1 dX7_goCombine_136 (by decide) ?_
                        exact ih40 _ _ _ _ _ h r_x26 B (lv_sub hl [0, 3, 4, 5, 6, 7] rfl)
                      · refine jr_iconst C dX7_goCombine_129 ?_
                        refine cl_X7_laysIn C hl.1 B q_1013 ⟨Nat.le_of_ble_eq_true rfl, Nat.le_of_ble_eq_true rfl⟩ ⟨Nat.zero_le _, Nat.zero_le _⟩ (Nat.le_of_ble_eq_true rfl) k_o r_a4 r_x5 (Or.inl rfl) h dX7_goCombine_130 (fun M27 _ _ h B => ?_)
                        have o_M27 := B.2.2
                        refine jr_iinc (k := 2) (lv' := fun x28 => [(5, .int (jI x28)), (7, .int (jI x10)), (6, .int (jI x9)), (0, .ref (jD G o)), (1, .int (jI a1)), (2, .int (jI a2)), (3, .int (jI a3)), (4, .int (jI a4))]) C h hl rfl (by decide) (fun _ => rfl) dX7_goCombine_133 (fun x28 h r_x28 ls hl => ?_)
                        refine lv_goto (tgt := 40) C.1 C.2.1 dX7_goCombine_136 (by decide) ?_
                        exact ih40 _ _ _ _ _ h r_x28 B (lv_sub hl [0, 3, 4, 5, 6, 7] rfl)
              · exact hkx40 _ _ _ _ h  B (lv_sub hl [1, 5] rfl)
          exact hL40 N _ _ _ _ _ h (jkc rfl) B (lv_sub hl [0, 1, 2, 3, 4, 5] rfl)
theorem cl_X7_goCombine {p : Program} {l : Launch} {e : Env} {R : Room} {s : State} {m : MethodId} {args : Array Value} {below : List Frame} {meth : Method} {c : Code} {H : Heap} {locs : List Loc} {cells slots : Nat} {Q : State → Prop} {cc : ByteArray} {nL : Nat} {own : String} {G : jG} {H0 : Heap} {pc idx : Nat} {ls : Array Slot} {rest : List Value} {N : Nat} {M : jM} {o a1 a2 a3 a4 : Int} {k : Int → jM → Prop} (C : Cx G p s args m c cc nL own) (hl : ls.size = nL) (B : Hp G M H0 H locs) (q1 : Cond.methodLink own idx yX7_goCombine ∈ tb) (hR : (rmm 2 45).frames + 1 ≤ R.frames ∧ 8 + (8 + 11) + (rmm 2 45).locals ≤ R.locals) (hcs : cells ≤ R.cells ∧ slots ≤ R.slots) (hW : (rest.map fun v => v.category).sum ≤ 8) (k_o : jK o = 8) (r_a1 : jR a1) (r_a2 : jR a2) (r_a3 : jR a3) (r_a4 : jR a4) (h : w_X7_goCombine N M o a1 a2 a3 a4 k) (hdg : decode cc pc = .ok (.invokevirtual idx, 3)) (kk : ∀ (r : Int) (M' : jM), jR r → ∀ (H1 : Heap) (locs1 : List Loc), k r M' → Hp G M' H0 H1 locs1 → W p l e R s m args below meth c H1 locs1 cells slots Q (F0 m (pc + 3) ls (.int (jI r) :: rest))) : W p l e R s m args below meth c H locs cells slots Q (F0 m pc ls (.int (jI a4) :: .int (jI a3) :: .int (jI a2) :: .int (jI a1) :: .ref (jD G o) :: rest)) :=
  jr_callI B (jr_runV (o := o) (As := [.int (jI a1), .int (jI a2), .int (jI a3), .int (jI a4)]) (n := 4) C hl B (m_X7_goCombine B.2.2 k_o r_a1 r_a2 r_a3 r_a4 h) (jE8 k_o) (by omega) rfl q1 q_1031 qs_69 q_1032 q_8 ⟨by decide, by decide, by decide +kernel⟩ rfl ⟨rfl, rfl⟩ hR hcs rfl hW hdg) (fun r M' H1 locs1 hr hk B1 => kk r M' hr H1 locs1 hk B1)
def lp_X7_goClear_18 (o : Int) (a1 : Int) (kx18 : jM → Prop) : Nat → Int → jM → Prop
  | 0, _, _ => False
  | n + 1, x3, M4 => (if x3 < 4 then (jB (jW ((jW (23 + (jW (4 * a1)))) + x3)) 1115 ∧ jL (jU M4 (o + 1) (jW ((jW (23 + (jW (4 * a1)))) + x3)) 0) (fun M6 => (jL (jW (x3 + 1)) (fun x7 => (lp_X7_goClear_18 o a1 kx18 n x7 M6))))) else (kx18 M4))
def w_X7_goClear (N : Nat) (M : jM) (o : Int) (a1 : Int) (k : Int → jM → Prop) : Prop := (w_X7_isList a1 (fun x1 => (if x1 = 0 then (k (-1000001) M) else (w_X7_sizeOf N M o a1 (fun x2 => (lp_X7_goClear_18 o a1 (fun (M5 : jM) => (k x2 M5)) N 0 M))))))
set_option maxHeartbeats 4000000 in
set_option maxRecDepth 100000 in
theorem m_X7_goClear {l : Launch} {G : jG} {N : Nat} {M : jM} {o a1 : Int} {k : Int → jM → Prop} (o_M : jOK M) (k_o : jK o = 8) (r_a1 : jR a1) (h : w_X7_goClear N M o a1 k) : Met l yX7_goClear (wsG yX7_goClear cX7_goClear 4 (some .int)) (rmm 2 45) (jPc G M [.ref (jD G o), .int (jI a1)]) (qI G k) 0 0 (gA G) := by
  refine jm_start RX7 rfl (by decide) (Nat.le_of_ble_eq_true rfl) o_M ?_
  intro p e s m args below meth c ls C hr hlocks hl B
  have hl : lv_has ls 4 [(0, .ref (jD G o)), (1, .int (jI a1))] := hl
  unfold w_X7_goClear at h
  refine lv_iload_n C.1 C.2.1 dX7_goClear_0 rfl (lv_at hl 1 rfl) ?_
  refine cl_X7_isList C hl.1 B q_977 ⟨Nat.le_of_ble_eq_true rfl, Nat.le_of_ble_eq_true rfl⟩ ⟨Nat.zero_le _, Nat.zero_le _⟩ (Nat.le_of_ble_eq_true rfl) r_a1 h dX7_goClear_1 (fun x1 z_x1 _ _ h B => ?_)
  refine jr_if_ne (tgt := 10) C (zR z_x1) h dX7_goClear_4 (by decide) (fun hc4 h => ?_) (fun hc4 h => ?_)
  · refine jr_ldc (n := -1000001) C q_753 (by decide) dX7_goClear_7 ?_
    exact jr_iret C B hr hlocks (jkc rfl) h dX7_goClear_9
  · refine lv_aload_n C.1 C.2.1 dX7_goClear_10 rfl (lv_at hl 0 rfl) ?_
    refine lv_iload_n C.1 C.2.1 dX7_goClear_11 rfl (lv_at hl 1 rfl) ?_
    refine cl_X7_sizeOf C hl.1 B q_1017 ⟨Nat.le_of_ble_eq_true rfl, Nat.le_of_ble_eq_true rfl⟩ ⟨Nat.zero_le _, Nat.zero_le _⟩ (Nat.le_of_ble_eq_true rfl) k_o r_a1 h dX7_goClear_12 (fun x2 r_x2 _ _ h B => ?_)
    refine lv_istore_n (lv' := [(2, .int (jI x2)), (0, .ref (jD G o)), (1, .int (jI a1))]) C.1 C.2.1 dX7_goClear_15 rfl hl (by decide) rfl (fun ls hl => ?_)
    refine jr_iconst C dX7_goClear_16 ?_
    refine lv_istore_n (lv' := [(3, .int (jI 0)), (2, .int (jI x2)), (0, .ref (jD G o)), (1, .int (jI a1))]) C.1 C.2.1 dX7_goClear_17 rfl hl (by decide) rfl (fun ls hl => ?_)
    obtain ⟨kx18, hkx18, h⟩ : ∃ kx18 : jM → Prop, (∀ (M5 : jM) (H : Heap) (locs : List Loc) (ls : Array Slot), kx18 M5 → Hp G M5 s.heap H locs → lv_has ls 4 [(2, .int (jI x2))] → W p l e (rmm 2 45) s m args below meth c H locs 0 0 (MQ below (qI G k) args s 0 0 (gA G)) (F0 m 43 ls [])) ∧ lp_X7_goClear_18 o a1 kx18 N 0 M := by
      refine ⟨_, ?_, h⟩
      intro M5 H locs ls h  B hl
      have o_M5 := B.2.2
      refine lv_iload_n C.1 C.2.1 dX7_goClear_43 rfl (lv_at hl 0 rfl) ?_
      exact jr_iret C B hr hlocks r_x2 h dX7_goClear_44
    have hL18 : ∀ (n : Nat) (x3 : Int) (M4 : jM) (H : Heap) (locs : List Loc) (ls : Array Slot), lp_X7_goClear_18 o a1 kx18 n x3 M4 → jR x3 → Hp G M4 s.heap H locs → lv_has ls 4 [(3, .int (jI x3)), (2, .int (jI x2)), (0, .ref (jD G o)), (1, .int (jI a1))] → W p l e (rmm 2 45) s m args below meth c H locs 0 0 (MQ below (qI G k) args s 0 0 (gA G)) (F0 m 18 ls []) := by
      intro n
      induction n with
      | zero => intro x3 M4 H locs ls h; exact (show False from h).elim
      | succ n ih18 =>
        intro x3 M4 H locs ls h r_x3 B hl
        have o_M4 := B.2.2
        rw [lp_X7_goClear_18] at h
        refine lv_iload_n C.1 C.2.1 dX7_goClear_18 rfl (lv_at hl 0 rfl) ?_
        refine jr_iconst C dX7_goClear_19 ?_
        refine jr_icmp_ge (tgt := 43) C r_x3 (jkc rfl) h dX7_goClear_20 (by decide) (fun hc20 h => ?_) (fun hc20 h => ?_)
        · refine lv_aload_n C.1 C.2.1 dX7_goClear_23 rfl (lv_at hl 2 rfl) ?_
          refine gf_X7_7 C B k_o dX7_goClear_24 ?_
          refine jr_bipush C dX7_goClear_27 (by decide) ?_
          refine jr_iconst C dX7_goClear_29 ?_
          refine lv_iload_n C.1 C.2.1 dX7_goClear_30 rfl (lv_at hl 3 rfl) ?_
          refine jr_imul C dX7_goClear_31 ?_
          refine jr_iadd C dX7_goClear_32 ?_
          refine lv_iload_n C.1 C.2.1 dX7_goClear_33 rfl (lv_at hl 0 rfl) ?_
          refine jr_iadd C dX7_goClear_34 ?_
          refine jr_iconst C dX7_goClear_35 ?_
          refine jr_iast C B 1115 (jk1 (ko_X7_0 k_o) rfl) (jk2 (ko_X7_0 k_o) rfl) (jW_R _) (jkc rfl) h dX7_goClear_36 (fun M6 _ _ h B => ?_)
          have o_M6 := B.2.2
          refine jr_iinc (k := 0) (lv' := fun x7 => [(3, .int (jI x7)), (2, .int (jI x2)), (0, .ref (jD G o)), (1, .int (jI a1))]) C h hl rfl (by decide) (fun _ => rfl) dX7_goClear_37 (fun x7 h r_x7 ls hl => ?_)
          refine lv_goto (tgt := 18) C.1 C.2.1 dX7_goClear_40 (by decide) ?_
          exact ih18 _ _ _ _ _ h r_x7 B (lv_sub hl [0, 1, 2, 3] rfl)
        · exact hkx18 _ _ _ _ h  B (lv_sub hl [1] rfl)
    exact hL18 N _ _ _ _ _ h (jkc rfl) B (lv_sub hl [0, 1, 2, 3] rfl)
theorem cl_X7_goClear {p : Program} {l : Launch} {e : Env} {R : Room} {s : State} {m : MethodId} {args : Array Value} {below : List Frame} {meth : Method} {c : Code} {H : Heap} {locs : List Loc} {cells slots : Nat} {Q : State → Prop} {cc : ByteArray} {nL : Nat} {own : String} {G : jG} {H0 : Heap} {pc idx : Nat} {ls : Array Slot} {rest : List Value} {N : Nat} {M : jM} {o a1 : Int} {k : Int → jM → Prop} (C : Cx G p s args m c cc nL own) (hl : ls.size = nL) (B : Hp G M H0 H locs) (q1 : Cond.methodLink own idx yX7_goClear ∈ tb) (hR : (rmm 2 45).frames + 1 ≤ R.frames ∧ 8 + (4 + 11) + (rmm 2 45).locals ≤ R.locals) (hcs : cells ≤ R.cells ∧ slots ≤ R.slots) (hW : (rest.map fun v => v.category).sum ≤ 8) (k_o : jK o = 8) (r_a1 : jR a1) (h : w_X7_goClear N M o a1 k) (hdg : decode cc pc = .ok (.invokevirtual idx, 3)) (kk : ∀ (r : Int) (M' : jM), jR r → ∀ (H1 : Heap) (locs1 : List Loc), k r M' → Hp G M' H0 H1 locs1 → W p l e R s m args below meth c H1 locs1 cells slots Q (F0 m (pc + 3) ls (.int (jI r) :: rest))) : W p l e R s m args below meth c H locs cells slots Q (F0 m pc ls (.int (jI a1) :: .ref (jD G o) :: rest)) :=
  jr_callI B (jr_runV (o := o) (As := [.int (jI a1)]) (n := 1) C hl B (m_X7_goClear B.2.2 k_o r_a1 h) (jE8 k_o) (by omega) rfl q1 q_1039 qs_70 q_1040 q_8 ⟨by decide, by decide, by decide +kernel⟩ rfl ⟨rfl, rfl⟩ hR hcs rfl hW hdg) (fun r M' H1 locs1 hr hk B1 => kk r M' hr H1 locs1 hk B1)
def w_X7_associate (N : Nat) (M : jM) (o : Int) (a1 : Int) (a2 : Int) (k : Int → jM → Prop) : Prop := (w_X7_begins N M o (fun M1 => (w_X7_goAssociate M1 o a1 a2 (fun x2 M3 => (w_X7_keeps N M3 o x2 (fun x4 M5 => (k x4 M5)))))))
set_option maxHeartbeats 4000000 in
set_option maxRecDepth 100000 in
theorem m_X7_associate {l : Launch} {G : jG} {N : Nat} {M : jM} {o a1 a2 : Int} {k : Int → jM → Prop} (o_M : jOK M) (k_o : jK o = 8) (r_a1 : jR a1) (z_a2 : a2 = 0 ∨ a2 = 1) (h : w_X7_associate N M o a1 a2 k) : Met l yX7_associate (wsG yX7_associate cX7_associate 3 (some .int)) (rmm 3 64) (jPc G M [.ref (jD G o), .int (jI a1), .int (jI a2)]) (qI G k) 0 0 (gA G) := by
  refine jm_start RX7 rfl (by decide) (Nat.le_of_ble_eq_true rfl) o_M ?_
  intro p e s m args below meth c ls C hr hlocks hl B
  have hl : lv_has ls 3 [(0, .ref (jD G o)), (1, .int (jI a1)), (2, .int (jI a2))] := hl
  unfold w_X7_associate at h
  refine lv_aload_n C.1 C.2.1 dX7_associate_0 rfl (lv_at hl 0 rfl) ?_
  refine cl_X7_begins C hl.1 B q_734 ⟨Nat.le_of_ble_eq_true rfl, Nat.le_of_ble_eq_true rfl⟩ ⟨Nat.zero_le _, Nat.zero_le _⟩ (Nat.le_of_ble_eq_true rfl) k_o h dX7_associate_1 (fun M1 _ _ h B => ?_)
  have o_M1 := B.2.2
  refine lv_aload_n C.1 C.2.1 dX7_associate_4 rfl (lv_at hl 0 rfl) ?_
  refine lv_aload_n C.1 C.2.1 dX7_associate_5 rfl (lv_at hl 0 rfl) ?_
  refine lv_iload_n C.1 C.2.1 dX7_associate_6 rfl (lv_at hl 1 rfl) ?_
  refine lv_iload_n C.1 C.2.1 dX7_associate_7 rfl (lv_at hl 2 rfl) ?_
  refine cl_X7_goAssociate C hl.1 B q_950 ⟨Nat.le_of_ble_eq_true rfl, Nat.le_of_ble_eq_true rfl⟩ ⟨Nat.zero_le _, Nat.zero_le _⟩ (Nat.le_of_ble_eq_true rfl) k_o r_a1 z_a2 h dX7_associate_8 (fun x2 M3 r_x2 _ _ h B => ?_)
  have o_M3 := B.2.2
  refine cl_X7_keeps C hl.1 B q_764 ⟨Nat.le_of_ble_eq_true rfl, Nat.le_of_ble_eq_true rfl⟩ ⟨Nat.zero_le _, Nat.zero_le _⟩ (Nat.le_of_ble_eq_true rfl) k_o r_x2 h dX7_associate_11 (fun x4 M5 r_x4 _ _ h B => ?_)
  have o_M5 := B.2.2
  exact jr_iret C B hr hlocks r_x4 h dX7_associate_14
theorem cl_X7_associate {p : Program} {l : Launch} {e : Env} {R : Room} {s : State} {m : MethodId} {args : Array Value} {below : List Frame} {meth : Method} {c : Code} {H : Heap} {locs : List Loc} {cells slots : Nat} {Q : State → Prop} {cc : ByteArray} {nL : Nat} {own : String} {G : jG} {H0 : Heap} {pc idx : Nat} {ls : Array Slot} {rest : List Value} {N : Nat} {M : jM} {o a1 a2 : Int} {k : Int → jM → Prop} (C : Cx G p s args m c cc nL own) (hl : ls.size = nL) (B : Hp G M H0 H locs) (q1 : Cond.methodLink own idx yX7_associate ∈ tb) (hR : (rmm 3 64).frames + 1 ≤ R.frames ∧ 8 + (3 + 11) + (rmm 3 64).locals ≤ R.locals) (hcs : cells ≤ R.cells ∧ slots ≤ R.slots) (hW : (rest.map fun v => v.category).sum ≤ 8) (k_o : jK o = 8) (r_a1 : jR a1) (z_a2 : a2 = 0 ∨ a2 = 1) (h : w_X7_associate N M o a1 a2 k) (hdg : decode cc pc = .ok (.invokevirtual idx, 3)) (kk : ∀ (r : Int) (M' : jM), jR r → ∀ (H1 : Heap) (locs1 : List Loc), k r M' → Hp G M' H0 H1 locs1 → W p l e R s m args below meth c H1 locs1 cells slots Q (F0 m (pc + 3) ls (.int (jI r) :: rest))) : W p l e R s m args below meth c H locs cells slots Q (F0 m pc ls (.int (jI a2) :: .int (jI a1) :: .ref (jD G o) :: rest)) :=
  jr_callI B (jr_runV (o := o) (As := [.int (jI a1), .int (jI a2)]) (n := 2) C hl B (m_X7_associate B.2.2 k_o r_a1 z_a2 h) (jE8 k_o) (by omega) rfl q1 q_947 q_948 q_949 q_8 ⟨by decide, by decide, by decide +kernel⟩ rfl ⟨rfl, rfl⟩ hR hcs rfl hW hdg) (fun r M' H1 locs1 hr hk B1 => kk r M' hr H1 locs1 hk B1)
def w_X7_define (N : Nat) (M : jM) (o : Int) (a1 : Int) (a2 : Int) (a3 : Int) (a4 : Int) (k : Int → jM → Prop) : Prop := (w_X7_begins N M o (fun M1 => (w_X7_goDefine M1 o a1 a2 a3 a4 (fun x2 M3 => (w_X7_keeps N M3 o x2 (fun x4 M5 => (k x4 M5)))))))
set_option maxHeartbeats 4000000 in
set_option maxRecDepth 100000 in
theorem m_X7_define {l : Launch} {G : jG} {N : Nat} {M : jM} {o a1 a2 a3 a4 : Int} {k : Int → jM → Prop} (o_M : jOK M) (k_o : jK o = 8) (r_a1 : jR a1) (r_a2 : jR a2) (r_a3 : jR a3) (r_a4 : jR a4) (h : w_X7_define N M o a1 a2 a3 a4 k) : Met l yX7_define (wsG yX7_define cX7_define 5 (some .int)) (rmm 3 67) (jPc G M [.ref (jD G o), .int (jI a1), .int (jI a2), .int (jI a3), .int (jI a4)]) (qI G k) 0 0 (gA G) := by
  refine jm_start RX7 rfl (by decide) (Nat.le_of_ble_eq_true rfl) o_M ?_
  intro p e s m args below meth c ls C hr hlocks hl B
  have hl : lv_has ls 5 [(0, .ref (jD G o)), (1, .int (jI a1)), (2, .int (jI a2)), (3, .int (jI a3)), (4, .int (jI a4))] := hl
  unfold w_X7_define at h
  refine lv_aload_n C.1 C.2.1 dX7_define_0 rfl (lv_at hl 0 rfl) ?_
  refine cl_X7_begins C hl.1 B q_734 ⟨Nat.le_of_ble_eq_true rfl, Nat.le_of_ble_eq_true rfl⟩ ⟨Nat.zero_le _, Nat.zero_le _⟩ (Nat.le_of_ble_eq_true rfl) k_o h dX7_define_1 (fun M1 _ _ h B => ?_)
  have o_M1 := B.2.2
  refine lv_aload_n C.1 C.2.1 dX7_define_4 rfl (lv_at hl 0 rfl) ?_
  refine lv_aload_n C.1 C.2.1 dX7_define_5 rfl (lv_at hl 0 rfl) ?_
  refine lv_iload_n C.1 C.2.1 dX7_define_6 rfl (lv_at hl 1 rfl) ?_
  refine lv_iload_n C.1 C.2.1 dX7_define_7 rfl (lv_at hl 2 rfl) ?_
  refine lv_iload_n C.1 C.2.1 dX7_define_8 rfl (lv_at hl 3 rfl) ?_
  refine lv_iload C.1 C.2.1 dX7_define_9 (lv_at hl 4 rfl) ?_
  refine cl_X7_goDefine C hl.1 B q_958 ⟨Nat.le_of_ble_eq_true rfl, Nat.le_of_ble_eq_true rfl⟩ ⟨Nat.zero_le _, Nat.zero_le _⟩ (Nat.le_of_ble_eq_true rfl) k_o r_a1 r_a2 r_a3 r_a4 h dX7_define_11 (fun x2 M3 r_x2 _ _ h B => ?_)
  have o_M3 := B.2.2
  refine cl_X7_keeps C hl.1 B q_764 ⟨Nat.le_of_ble_eq_true rfl, Nat.le_of_ble_eq_true rfl⟩ ⟨Nat.zero_le _, Nat.zero_le _⟩ (Nat.le_of_ble_eq_true rfl) k_o r_x2 h dX7_define_14 (fun x4 M5 r_x4 _ _ h B => ?_)
  have o_M5 := B.2.2
  exact jr_iret C B hr hlocks r_x4 h dX7_define_17
theorem cl_X7_define {p : Program} {l : Launch} {e : Env} {R : Room} {s : State} {m : MethodId} {args : Array Value} {below : List Frame} {meth : Method} {c : Code} {H : Heap} {locs : List Loc} {cells slots : Nat} {Q : State → Prop} {cc : ByteArray} {nL : Nat} {own : String} {G : jG} {H0 : Heap} {pc idx : Nat} {ls : Array Slot} {rest : List Value} {N : Nat} {M : jM} {o a1 a2 a3 a4 : Int} {k : Int → jM → Prop} (C : Cx G p s args m c cc nL own) (hl : ls.size = nL) (B : Hp G M H0 H locs) (q1 : Cond.methodLink own idx yX7_define ∈ tb) (hR : (rmm 3 67).frames + 1 ≤ R.frames ∧ 8 + (5 + 11) + (rmm 3 67).locals ≤ R.locals) (hcs : cells ≤ R.cells ∧ slots ≤ R.slots) (hW : (rest.map fun v => v.category).sum ≤ 8) (k_o : jK o = 8) (r_a1 : jR a1) (r_a2 : jR a2) (r_a3 : jR a3) (r_a4 : jR a4) (h : w_X7_define N M o a1 a2 a3 a4 k) (hdg : decode cc pc = .ok (.invokevirtual idx, 3)) (kk : ∀ (r : Int) (M' : jM), jR r → ∀ (H1 : Heap) (locs1 : List Loc), k r M' → Hp G M' H0 H1 locs1 → W p l e R s m args below meth c H1 locs1 cells slots Q (F0 m (pc + 3) ls (.int (jI r) :: rest))) : W p l e R s m args below meth c H locs cells slots Q (F0 m pc ls (.int (jI a4) :: .int (jI a3) :: .int (jI a2) :: .int (jI a1) :: .ref (jD G o) :: rest)) :=
  jr_callI B (jr_runV (o := o) (As := [.int (jI a1), .int (jI a2), .int (jI a3), .int (jI a4)]) (n := 4) C hl B (m_X7_define B.2.2 k_o r_a1 r_a2 r_a3 r_a4 h) (jE8 k_o) (by omega) rfl q1 q_955 q_956 q_957 q_8 ⟨by decide, by decide, by decide +kernel⟩ rfl ⟨rfl, rfl⟩ hR hcs rfl hW hdg) (fun r M' H1 locs1 hr hk B1 => kk r M' hr H1 locs1 hk B1)
def w_X7_select (N : Nat) (M : jM) (o : Int) (a1 : Int) (a2 : Int) (a3 : Int) (a4 : Int) (a5 : Int) (k : Int → jM → Prop) : Prop := (w_X7_begins N M o (fun M1 => (w_X7_goSelect N M1 o a1 a2 a3 a4 a5 (fun x2 M3 => (w_X7_keeps N M3 o x2 (fun x4 M5 => (k x4 M5)))))))
set_option maxHeartbeats 4000000 in
set_option maxRecDepth 100000 in
theorem m_X7_select {l : Launch} {G : jG} {N : Nat} {M : jM} {o a1 a2 a3 a4 a5 : Int} {k : Int → jM → Prop} (o_M : jOK M) (k_o : jK o = 8) (r_a1 : jR a1) (r_a2 : jR a2) (r_a3 : jR a3) (z_a4 : a4 = 0 ∨ a4 = 1) (r_a5 : jR a5) (h : w_X7_select N M o a1 a2 a3 a4 a5 k) : Met l yX7_select (wsG yX7_select cX7_select 6 (some .int)) (rmm 7 169) (jPc G M [.ref (jD G o), .int (jI a1), .int (jI a2), .int (jI a3), .int (jI a4), .int (jI a5)]) (qI G k) 0 0 (gA G) := by
  refine jm_start RX7 rfl (by decide) (Nat.le_of_ble_eq_true rfl) o_M ?_
  intro p e s m args below meth c ls C hr hlocks hl B
  have hl : lv_has ls 6 [(0, .ref (jD G o)), (1, .int (jI a1)), (2, .int (jI a2)), (3, .int (jI a3)), (4, .int (jI a4)), (5, .int (jI a5))] := hl
  unfold w_X7_select at h
  refine lv_aload_n C.1 C.2.1 dX7_select_0 rfl (lv_at hl 0 rfl) ?_
  refine cl_X7_begins C hl.1 B q_734 ⟨Nat.le_of_ble_eq_true rfl, Nat.le_of_ble_eq_true rfl⟩ ⟨Nat.zero_le _, Nat.zero_le _⟩ (Nat.le_of_ble_eq_true rfl) k_o h dX7_select_1 (fun M1 _ _ h B => ?_)
  have o_M1 := B.2.2
  refine lv_aload_n C.1 C.2.1 dX7_select_4 rfl (lv_at hl 0 rfl) ?_
  refine lv_aload_n C.1 C.2.1 dX7_select_5 rfl (lv_at hl 0 rfl) ?_
  refine lv_iload_n C.1 C.2.1 dX7_select_6 rfl (lv_at hl 1 rfl) ?_
  refine lv_iload_n C.1 C.2.1 dX7_select_7 rfl (lv_at hl 2 rfl) ?_
  refine lv_iload_n C.1 C.2.1 dX7_select_8 rfl (lv_at hl 3 rfl) ?_
  refine lv_iload C.1 C.2.1 dX7_select_9 (lv_at hl 4 rfl) ?_
  refine lv_iload C.1 C.2.1 dX7_select_11 (lv_at hl 5 rfl) ?_
  refine cl_X7_goSelect C hl.1 B q_973 ⟨Nat.le_of_ble_eq_true rfl, Nat.le_of_ble_eq_true rfl⟩ ⟨Nat.zero_le _, Nat.zero_le _⟩ (Nat.le_of_ble_eq_true rfl) k_o r_a1 r_a2 r_a3 z_a4 r_a5 h dX7_select_13 (fun x2 M3 r_x2 _ _ h B => ?_)
  have o_M3 := B.2.2
  refine cl_X7_keeps C hl.1 B q_764 ⟨Nat.le_of_ble_eq_true rfl, Nat.le_of_ble_eq_true rfl⟩ ⟨Nat.zero_le _, Nat.zero_le _⟩ (Nat.le_of_ble_eq_true rfl) k_o r_x2 h dX7_select_16 (fun x4 M5 r_x4 _ _ h B => ?_)
  have o_M5 := B.2.2
  exact jr_iret C B hr hlocks r_x4 h dX7_select_19
theorem cl_X7_select {p : Program} {l : Launch} {e : Env} {R : Room} {s : State} {m : MethodId} {args : Array Value} {below : List Frame} {meth : Method} {c : Code} {H : Heap} {locs : List Loc} {cells slots : Nat} {Q : State → Prop} {cc : ByteArray} {nL : Nat} {own : String} {G : jG} {H0 : Heap} {pc idx : Nat} {ls : Array Slot} {rest : List Value} {N : Nat} {M : jM} {o a1 a2 a3 a4 a5 : Int} {k : Int → jM → Prop} (C : Cx G p s args m c cc nL own) (hl : ls.size = nL) (B : Hp G M H0 H locs) (q1 : Cond.methodLink own idx yX7_select ∈ tb) (hR : (rmm 7 169).frames + 1 ≤ R.frames ∧ 8 + (6 + 11) + (rmm 7 169).locals ≤ R.locals) (hcs : cells ≤ R.cells ∧ slots ≤ R.slots) (hW : (rest.map fun v => v.category).sum ≤ 8) (k_o : jK o = 8) (r_a1 : jR a1) (r_a2 : jR a2) (r_a3 : jR a3) (z_a4 : a4 = 0 ∨ a4 = 1) (r_a5 : jR a5) (h : w_X7_select N M o a1 a2 a3 a4 a5 k) (hdg : decode cc pc = .ok (.invokevirtual idx, 3)) (kk : ∀ (r : Int) (M' : jM), jR r → ∀ (H1 : Heap) (locs1 : List Loc), k r M' → Hp G M' H0 H1 locs1 → W p l e R s m args below meth c H1 locs1 cells slots Q (F0 m (pc + 3) ls (.int (jI r) :: rest))) : W p l e R s m args below meth c H locs cells slots Q (F0 m pc ls (.int (jI a5) :: .int (jI a4) :: .int (jI a3) :: .int (jI a2) :: .int (jI a1) :: .ref (jD G o) :: rest)) :=
  jr_callI B (jr_runV (o := o) (As := [.int (jI a1), .int (jI a2), .int (jI a3), .int (jI a4), .int (jI a5)]) (n := 5) C hl B (m_X7_select B.2.2 k_o r_a1 r_a2 r_a3 z_a4 r_a5 h) (jE8 k_o) (by omega) rfl q1 q_970 q_971 q_972 q_8 ⟨by decide, by decide, by decide +kernel⟩ rfl ⟨rfl, rfl⟩ hR hcs rfl hW hdg) (fun r M' H1 locs1 hr hk B1 => kk r M' hr H1 locs1 hk B1)
def w_X7_combine (N : Nat) (M : jM) (o : Int) (a1 : Int) (a2 : Int) (a3 : Int) (a4 : Int) (k : Int → jM → Prop) : Prop := (w_X7_begins N M o (fun M1 => (w_X7_goCombine N M1 o a1 a2 a3 a4 (fun x2 M3 => (w_X7_keeps N M3 o x2 (fun x4 M5 => (k x4 M5)))))))
set_option maxHeartbeats 4000000 in
set_option maxRecDepth 100000 in
theorem m_X7_combine {l : Launch} {G : jG} {N : Nat} {M : jM} {o a1 a2 a3 a4 : Int} {k : Int → jM → Prop} (o_M : jOK M) (k_o : jK o = 8) (r_a1 : jR a1) (r_a2 : jR a2) (r_a3 : jR a3) (r_a4 : jR a4) (h : w_X7_combine N M o a1 a2 a3 a4 k) : Met l yX7_combine (wsG yX7_combine cX7_combine 5 (some .int)) (rmm 3 72) (jPc G M [.ref (jD G o), .int (jI a1), .int (jI a2), .int (jI a3), .int (jI a4)]) (qI G k) 0 0 (gA G) := by
  refine jm_start RX7 rfl (by decide) (Nat.le_of_ble_eq_true rfl) o_M ?_
  intro p e s m args below meth c ls C hr hlocks hl B
  have hl : lv_has ls 5 [(0, .ref (jD G o)), (1, .int (jI a1)), (2, .int (jI a2)), (3, .int (jI a3)), (4, .int (jI a4))] := hl
  unfold w_X7_combine at h
  refine lv_aload_n C.1 C.2.1 dX7_combine_0 rfl (lv_at hl 0 rfl) ?_
  refine cl_X7_begins C hl.1 B q_734 ⟨Nat.le_of_ble_eq_true rfl, Nat.le_of_ble_eq_true rfl⟩ ⟨Nat.zero_le _, Nat.zero_le _⟩ (Nat.le_of_ble_eq_true rfl) k_o h dX7_combine_1 (fun M1 _ _ h B => ?_)
  have o_M1 := B.2.2
  refine lv_aload_n C.1 C.2.1 dX7_combine_4 rfl (lv_at hl 0 rfl) ?_
  refine lv_aload_n C.1 C.2.1 dX7_combine_5 rfl (lv_at hl 0 rfl) ?_
  refine lv_iload_n C.1 C.2.1 dX7_combine_6 rfl (lv_at hl 1 rfl) ?_
  refine lv_iload_n C.1 C.2.1 dX7_combine_7 rfl (lv_at hl 2 rfl) ?_
  refine lv_iload_n C.1 C.2.1 dX7_combine_8 rfl (lv_at hl 3 rfl) ?_
  refine lv_iload C.1 C.2.1 dX7_combine_9 (lv_at hl 4 rfl) ?_
  refine cl_X7_goCombine C hl.1 B q_1029 ⟨Nat.le_of_ble_eq_true rfl, Nat.le_of_ble_eq_true rfl⟩ ⟨Nat.zero_le _, Nat.zero_le _⟩ (Nat.le_of_ble_eq_true rfl) k_o r_a1 r_a2 r_a3 r_a4 h dX7_combine_11 (fun x2 M3 r_x2 _ _ h B => ?_)
  have o_M3 := B.2.2
  refine cl_X7_keeps C hl.1 B q_764 ⟨Nat.le_of_ble_eq_true rfl, Nat.le_of_ble_eq_true rfl⟩ ⟨Nat.zero_le _, Nat.zero_le _⟩ (Nat.le_of_ble_eq_true rfl) k_o r_x2 h dX7_combine_14 (fun x4 M5 r_x4 _ _ h B => ?_)
  have o_M5 := B.2.2
  exact jr_iret C B hr hlocks r_x4 h dX7_combine_17
theorem cl_X7_combine {p : Program} {l : Launch} {e : Env} {R : Room} {s : State} {m : MethodId} {args : Array Value} {below : List Frame} {meth : Method} {c : Code} {H : Heap} {locs : List Loc} {cells slots : Nat} {Q : State → Prop} {cc : ByteArray} {nL : Nat} {own : String} {G : jG} {H0 : Heap} {pc idx : Nat} {ls : Array Slot} {rest : List Value} {N : Nat} {M : jM} {o a1 a2 a3 a4 : Int} {k : Int → jM → Prop} (C : Cx G p s args m c cc nL own) (hl : ls.size = nL) (B : Hp G M H0 H locs) (q1 : Cond.methodLink own idx yX7_combine ∈ tb) (hR : (rmm 3 72).frames + 1 ≤ R.frames ∧ 8 + (5 + 11) + (rmm 3 72).locals ≤ R.locals) (hcs : cells ≤ R.cells ∧ slots ≤ R.slots) (hW : (rest.map fun v => v.category).sum ≤ 8) (k_o : jK o = 8) (r_a1 : jR a1) (r_a2 : jR a2) (r_a3 : jR a3) (r_a4 : jR a4) (h : w_X7_combine N M o a1 a2 a3 a4 k) (hdg : decode cc pc = .ok (.invokevirtual idx, 3)) (kk : ∀ (r : Int) (M' : jM), jR r → ∀ (H1 : Heap) (locs1 : List Loc), k r M' → Hp G M' H0 H1 locs1 → W p l e R s m args below meth c H1 locs1 cells slots Q (F0 m (pc + 3) ls (.int (jI r) :: rest))) : W p l e R s m args below meth c H locs cells slots Q (F0 m pc ls (.int (jI a4) :: .int (jI a3) :: .int (jI a2) :: .int (jI a1) :: .ref (jD G o) :: rest)) :=
  jr_callI B (jr_runV (o := o) (As := [.int (jI a1), .int (jI a2), .int (jI a3), .int (jI a4)]) (n := 4) C hl B (m_X7_combine B.2.2 k_o r_a1 r_a2 r_a3 r_a4 h) (jE8 k_o) (by omega) rfl q1 q_1026 q_1027 q_1028 q_8 ⟨by decide, by decide, by decide +kernel⟩ rfl ⟨rfl, rfl⟩ hR hcs rfl hW hdg) (fun r M' H1 locs1 hr hk B1 => kk r M' hr H1 locs1 hk B1)
def w_X7_clearList (N : Nat) (M : jM) (o : Int) (a1 : Int) (k : Int → jM → Prop) : Prop := (w_X7_begins N M o (fun M1 => (w_X7_goClear N M1 o a1 (fun x2 M3 => (w_X7_keeps N M3 o x2 (fun x4 M5 => (k x4 M5)))))))
set_option maxHeartbeats 4000000 in
set_option maxRecDepth 100000 in
theorem m_X7_clearList {l : Launch} {G : jG} {N : Nat} {M : jM} {o a1 : Int} {k : Int → jM → Prop} (o_M : jOK M) (k_o : jK o = 8) (r_a1 : jR a1) (h : w_X7_clearList N M o a1 k) : Met l yX7_clearList (wsG yX7_clearList cX7_clearList 2 (some .int)) (rmm 3 68) (jPc G M [.ref (jD G o), .int (jI a1)]) (qI G k) 0 0 (gA G) := by
  refine jm_start RX7 rfl (by decide) (Nat.le_of_ble_eq_true rfl) o_M ?_
  intro p e s m args below meth c ls C hr hlocks hl B
  have hl : lv_has ls 2 [(0, .ref (jD G o)), (1, .int (jI a1))] := hl
  unfold w_X7_clearList at h
  refine lv_aload_n C.1 C.2.1 dX7_clearList_0 rfl (lv_at hl 0 rfl) ?_
  refine cl_X7_begins C hl.1 B q_734 ⟨Nat.le_of_ble_eq_true rfl, Nat.le_of_ble_eq_true rfl⟩ ⟨Nat.zero_le _, Nat.zero_le _⟩ (Nat.le_of_ble_eq_true rfl) k_o h dX7_clearList_1 (fun M1 _ _ h B => ?_)
  have o_M1 := B.2.2
  refine lv_aload_n C.1 C.2.1 dX7_clearList_4 rfl (lv_at hl 0 rfl) ?_
  refine lv_aload_n C.1 C.2.1 dX7_clearList_5 rfl (lv_at hl 0 rfl) ?_
  refine lv_iload_n C.1 C.2.1 dX7_clearList_6 rfl (lv_at hl 1 rfl) ?_
  refine cl_X7_goClear C hl.1 B q_1037 ⟨Nat.le_of_ble_eq_true rfl, Nat.le_of_ble_eq_true rfl⟩ ⟨Nat.zero_le _, Nat.zero_le _⟩ (Nat.le_of_ble_eq_true rfl) k_o r_a1 h dX7_clearList_7 (fun x2 M3 r_x2 _ _ h B => ?_)
  have o_M3 := B.2.2
  refine cl_X7_keeps C hl.1 B q_764 ⟨Nat.le_of_ble_eq_true rfl, Nat.le_of_ble_eq_true rfl⟩ ⟨Nat.zero_le _, Nat.zero_le _⟩ (Nat.le_of_ble_eq_true rfl) k_o r_x2 h dX7_clearList_10 (fun x4 M5 r_x4 _ _ h B => ?_)
  have o_M5 := B.2.2
  exact jr_iret C B hr hlocks r_x4 h dX7_clearList_13
theorem cl_X7_clearList {p : Program} {l : Launch} {e : Env} {R : Room} {s : State} {m : MethodId} {args : Array Value} {below : List Frame} {meth : Method} {c : Code} {H : Heap} {locs : List Loc} {cells slots : Nat} {Q : State → Prop} {cc : ByteArray} {nL : Nat} {own : String} {G : jG} {H0 : Heap} {pc idx : Nat} {ls : Array Slot} {rest : List Value} {N : Nat} {M : jM} {o a1 : Int} {k : Int → jM → Prop} (C : Cx G p s args m c cc nL own) (hl : ls.size = nL) (B : Hp G M H0 H locs) (q1 : Cond.methodLink own idx yX7_clearList ∈ tb) (hR : (rmm 3 68).frames + 1 ≤ R.frames ∧ 8 + (2 + 11) + (rmm 3 68).locals ≤ R.locals) (hcs : cells ≤ R.cells ∧ slots ≤ R.slots) (hW : (rest.map fun v => v.category).sum ≤ 8) (k_o : jK o = 8) (r_a1 : jR a1) (h : w_X7_clearList N M o a1 k) (hdg : decode cc pc = .ok (.invokevirtual idx, 3)) (kk : ∀ (r : Int) (M' : jM), jR r → ∀ (H1 : Heap) (locs1 : List Loc), k r M' → Hp G M' H0 H1 locs1 → W p l e R s m args below meth c H1 locs1 cells slots Q (F0 m (pc + 3) ls (.int (jI r) :: rest))) : W p l e R s m args below meth c H locs cells slots Q (F0 m pc ls (.int (jI a1) :: .ref (jD G o) :: rest)) :=
  jr_callI B (jr_runV (o := o) (As := [.int (jI a1)]) (n := 1) C hl B (m_X7_clearList B.2.2 k_o r_a1 h) (jE8 k_o) (by omega) rfl q1 q_1034 q_1035 q_1036 q_8 ⟨by decide, by decide, by decide +kernel⟩ rfl ⟨rfl, rfl⟩ hR hcs rfl hW hdg) (fun r M' H1 locs1 hr hk B1 => kk r M' hr H1 locs1 hk B1)
def w_X7_records (M : jM) (o : Int) (k : Int → Prop) : Prop := (jB 0 1115 ∧ (k (M (o + 1) 0)))
set_option maxHeartbeats 4000000 in
set_option maxRecDepth 100000 in
theorem m_X7_records {l : Launch} {G : jG} {M : jM} {o : Int} {k : Int → Prop} (o_M : jOK M) (k_o : jK o = 8) (h : w_X7_records M o k) : Met l yX7_records (wsG yX7_records cX7_records 1 (some .int)) (rmm 0 0) (jPc G M [.ref (jD G o)]) (qI G (fun r M' => M' = M ∧ k r)) 0 0 (gA G) := by
  refine jm_start RX7 rfl (by decide) (Nat.le_of_ble_eq_true rfl) o_M ?_
  intro p e s m args below meth c ls C hr hlocks hl B
  have hl : lv_has ls 1 [(0, .ref (jD G o))] := hl
  unfold w_X7_records at h
  refine lv_aload_n C.1 C.2.1 dX7_records_0 rfl (lv_at hl 0 rfl) ?_
  refine gf_X7_7 C B k_o dX7_records_1 ?_
  refine jr_iconst C dX7_records_4 ?_
  obtain ⟨g1, h⟩ := h
  refine jr_iald C B 1115 (jk1 (ko_X7_0 k_o) rfl) (jk2 (ko_X7_0 k_o) rfl) (jkc rfl) g1 dX7_records_5 ?_
  exact jr_iret C B hr hlocks (o_M (o + 1) 0).1 ⟨rfl, h⟩ dX7_records_6
theorem cl_X7_records {p : Program} {l : Launch} {e : Env} {R : Room} {s : State} {m : MethodId} {args : Array Value} {below : List Frame} {meth : Method} {c : Code} {H : Heap} {locs : List Loc} {cells slots : Nat} {Q : State → Prop} {cc : ByteArray} {nL : Nat} {own : String} {G : jG} {H0 : Heap} {pc idx : Nat} {ls : Array Slot} {rest : List Value} {M : jM} {o : Int} {k : Int → Prop} (C : Cx G p s args m c cc nL own) (hl : ls.size = nL) (B : Hp G M H0 H locs) (q1 : Cond.methodLink own idx yX7_records ∈ tb) (hR : (rmm 0 0).frames + 1 ≤ R.frames ∧ 8 + (1 + 11) + (rmm 0 0).locals ≤ R.locals) (hcs : cells ≤ R.cells ∧ slots ≤ R.slots) (hW : (rest.map fun v => v.category).sum ≤ 8) (k_o : jK o = 8) (h : w_X7_records M o k) (hdg : decode cc pc = .ok (.invokevirtual idx, 3)) (kk : ∀ (r : Int), jR r → ∀ (H1 : Heap) (locs1 : List Loc), k r → Hp G M H0 H1 locs1 → W p l e R s m args below meth c H1 locs1 cells slots Q (F0 m (pc + 3) ls (.int (jI r) :: rest))) : W p l e R s m args below meth c H locs cells slots Q (F0 m pc ls (.ref (jD G o) :: rest)) :=
  jr_callI B (jr_runV (o := o) (As := []) (n := 0) C hl B (m_X7_records B.2.2 k_o h) (jE8 k_o) (by omega) rfl q1 q_1042 q_1043 q_1044 q_8 ⟨by decide, by decide, by decide +kernel⟩ rfl ⟨rfl, rfl⟩ hR hcs rfl hW hdg) (fun r M' H1 locs1 hr hk B1 => by obtain ⟨rfl, hk⟩ := hk; exact kk r hr H1 locs1 hk B1)
def lp_X7_recordAt_28 (o : Int) (x2 : Int) (M : jM) (kx28 : Int → Prop) : Nat → Int → Int → Prop
  | 0, _, _ => False
  | n + 1, x5, x6 => (jB 0 1115 ∧ (if x6 < (M (o + 1) 0) then (w_X7_of M o x6 0 (fun x12 => (w_X7_of M o x2 0 (fun x13 => (if x12 < x13 then (jL (jW (x5 + 1)) (fun x14 => (jL (jW (x6 + 1)) (fun x15 => (lp_X7_recordAt_28 o x2 M kx28 n x14 x15))))) else (jL (jW (x5 + 0)) (fun x16 => (jL (jW (x6 + 1)) (fun x17 => (lp_X7_recordAt_28 o x2 M kx28 n x16 x17)))))))))) else (kx28 x5)))
def lp_X7_recordAt_12 (N : Nat) (o : Int) (a1 : Int) (M : jM) (kx12 : Int → Prop) : Nat → Int → Int → Prop
  | 0, _, _ => False
  | n + 1, x1, x2 => (jB 0 1115 ∧ (if x2 < (M (o + 1) 0) then (lp_X7_recordAt_28 o x2 M (fun (x7 : Int) => (if x7 = a1 then (w_X7_of M o x2 0 (fun x8 => (jL (jW (x2 + 1)) (fun x9 => (lp_X7_recordAt_12 N o a1 M kx12 n x8 x9))))) else (jL (jW (x2 + 1)) (fun x10 => (lp_X7_recordAt_12 N o a1 M kx12 n x1 x10))))) N 0 0) else (kx12 x1)))
def w_X7_recordAt (N : Nat) (M : jM) (o : Int) (a1 : Int) (k : Int → Prop) : Prop := (if a1 < 0 then (k (-1000002)) else (lp_X7_recordAt_12 N o a1 M (fun (x3 : Int) => (k x3)) N (-1000007) 0))
set_option maxHeartbeats 4000000 in
set_option maxRecDepth 100000 in
theorem m_X7_recordAt {l : Launch} {G : jG} {N : Nat} {M : jM} {o a1 : Int} {k : Int → Prop} (o_M : jOK M) (k_o : jK o = 8) (r_a1 : jR a1) (h : w_X7_recordAt N M o a1 k) : Met l yX7_recordAt (wsG yX7_recordAt cX7_recordAt 6 (some .int)) (rmm 1 22) (jPc G M [.ref (jD G o), .int (jI a1)]) (qI G (fun r M' => M' = M ∧ k r)) 0 0 (gA G) := by
  refine jm_start RX7 rfl (by decide) (Nat.le_of_ble_eq_true rfl) o_M ?_
  intro p e s m args below meth c ls C hr hlocks hl B
  have hl : lv_has ls 6 [(0, .ref (jD G o)), (1, .int (jI a1))] := hl
  unfold w_X7_recordAt at h
  refine lv_iload_n C.1 C.2.1 dX7_recordAt_0 rfl (lv_at hl 1 rfl) ?_
  refine jr_if_ge (tgt := 7) C r_a1 h dX7_recordAt_1 (by decide) (fun hc1 h => ?_) (fun hc1 h => ?_)
  · refine jr_ldc (n := -1000002) C q_748 (by decide) dX7_recordAt_4 ?_
    exact jr_iret C B hr hlocks (jkc rfl) ⟨rfl, h⟩ dX7_recordAt_6
  · refine jr_ldc (n := -1000007) C q_892 (by decide) dX7_recordAt_7 ?_
    refine lv_istore_n (lv' := [(2, .int (jI (-1000007))), (0, .ref (jD G o)), (1, .int (jI a1))]) C.1 C.2.1 dX7_recordAt_9 rfl hl (by decide) rfl (fun ls hl => ?_)
    refine jr_iconst C dX7_recordAt_10 ?_
    refine lv_istore_n (lv' := [(3, .int (jI 0)), (2, .int (jI (-1000007))), (0, .ref (jD G o)), (1, .int (jI a1))]) C.1 C.2.1 dX7_recordAt_11 rfl hl (by decide) rfl (fun ls hl => ?_)
    obtain ⟨kx12, hkx12, h⟩ : ∃ kx12 : Int → Prop, (∀ (x3 : Int) (H : Heap) (locs : List Loc) (ls : Array Slot), kx12 x3 → jR x3 → Hp G M s.heap H locs → lv_has ls 6 [(2, .int (jI x3))] → W p l e (rmm 1 22) s m args below meth c H locs 0 0 (MQ below (qI G (fun r M' => M' = M ∧ k r)) args s 0 0 (gA G)) (F0 m 94 ls [])) ∧ lp_X7_recordAt_12 N o a1 M kx12 N (-1000007) 0 := by
      refine ⟨_, ?_, h⟩
      intro x3 H locs ls h r_x3 B hl
      refine lv_iload_n C.1 C.2.1 dX7_recordAt_94 rfl (lv_at hl 0 rfl) ?_
      exact jr_iret C B hr hlocks r_x3 ⟨rfl, h⟩ dX7_recordAt_95
    have hL12 : ∀ (n : Nat) (x1 : Int) (x2 : Int) (H : Heap) (locs : List Loc) (ls : Array Slot), lp_X7_recordAt_12 N o a1 M kx12 n x1 x2 → jR x1 → jR x2 → Hp G M s.heap H locs → lv_has ls 6 [(2, .int (jI x1)), (3, .int (jI x2)), (0, .ref (jD G o)), (1, .int (jI a1))] → W p l e (rmm 1 22) s m args below meth c H locs 0 0 (MQ below (qI G (fun r M' => M' = M ∧ k r)) args s 0 0 (gA G)) (F0 m 12 ls []) := by
      intro n
      induction n with
      | zero => intro x1 x2 H locs ls h; exact (show False from h).elim
      | succ n ih12 =>
        intro x1 x2 H locs ls h r_x1 r_x2 B hl
        rw [lp_X7_recordAt_12] at h
        refine lv_iload_n C.1 C.2.1 dX7_recordAt_12 rfl (lv_at hl 1 rfl) ?_
        refine lv_aload_n C.1 C.2.1 dX7_recordAt_13 rfl (lv_at hl 2 rfl) ?_
        refine gf_X7_7 C B k_o dX7_recordAt_14 ?_
        refine jr_iconst C dX7_recordAt_17 ?_
        obtain ⟨g4, h⟩ := h
        refine jr_iald C B 1115 (jk1 (ko_X7_0 k_o) rfl) (jk2 (ko_X7_0 k_o) rfl) (jkc rfl) g4 dX7_recordAt_18 ?_
        refine jr_icmp_ge (tgt := 94) C r_x2 (o_M (o + 1) 0).1 h dX7_recordAt_19 (by decide) (fun hc19 h => ?_) (fun hc19 h => ?_)
        · refine jr_iconst C dX7_recordAt_22 ?_
          refine lv_istore (lv' := [(4, .int (jI 0)), (2, .int (jI x1)), (3, .int (jI x2)), (0, .ref (jD G o)), (1, .int (jI a1))]) C.1 C.2.1 dX7_recordAt_23 hl (by decide) rfl (fun ls hl => ?_)
          refine jr_iconst C dX7_recordAt_25 ?_
          refine lv_istore (lv' := [(5, .int (jI 0)), (4, .int (jI 0)), (2, .int (jI x1)), (3, .int (jI x2)), (0, .ref (jD G o)), (1, .int (jI a1))]) C.1 C.2.1 dX7_recordAt_26 hl (by decide) rfl (fun ls hl => ?_)
          obtain ⟨kx28, hkx28, h⟩ : ∃ kx28 : Int → Prop, (∀ (x7 : Int) (H : Heap) (locs : List Loc) (ls : Array Slot), kx28 x7 → jR x7 → Hp G M s.heap H locs → lv_has ls 6 [(4, .int (jI x7)), (2, .int (jI x1)), (3, .int (jI x2)), (0, .ref (jD G o)), (1, .int (jI a1))] → W p l e (rmm 1 22) s m args below meth c H locs 0 0 (MQ below (qI G (fun r M' => M' = M ∧ k r)) args s 0 0 (gA G)) (F0 m 71 ls [])) ∧ lp_X7_recordAt_28 o x2 M kx28 N 0 0 := by
            refine ⟨_, ?_, h⟩
            intro x7 H locs ls h r_x7 B hl
            refine lv_iload C.1 C.2.1 dX7_recordAt_71 (lv_at hl 0 rfl) ?_
            refine lv_iload_n C.1 C.2.1 dX7_recordAt_73 rfl (lv_at hl 4 rfl) ?_
            refine jr_icmp_ne (tgt := 86) C r_x7 r_a1 h dX7_recordAt_74 (by decide) (fun hc74 h => ?_) (fun hc74 h => ?_)
            · refine lv_aload_n C.1 C.2.1 dX7_recordAt_77 rfl (lv_at hl 3 rfl) ?_
              refine lv_iload_n C.1 C.2.1 dX7_recordAt_78 rfl (lv_at hl 2 rfl) ?_
              refine jr_iconst C dX7_recordAt_79 ?_
              refine cl_X7_of C hl.1 B q_754 ⟨Nat.le_of_ble_eq_true rfl, Nat.le_of_ble_eq_true rfl⟩ ⟨Nat.zero_le _, Nat.zero_le _⟩ (Nat.le_of_ble_eq_true rfl) k_o r_x2 (jkc rfl) h dX7_recordAt_80 (fun x8 r_x8 _ _ h B => ?_)
              refine lv_goto (tgt := 87) C.1 C.2.1 dX7_recordAt_83 (by decide) ?_
              refine lv_istore_n (lv' := [(2, .int (jI x8)), (4, .int (jI x7)), (3, .int (jI x2)), (0, .ref (jD G o)), (1, .int (jI a1))]) C.1 C.2.1 dX7_recordAt_87 rfl hl (by decide) rfl (fun ls hl => ?_)
              refine jr_iinc (k := 2) (lv' := fun x9 => [(3, .int (jI x9)), (2, .int (jI x8)), (4, .int (jI x7)), (0, .ref (jD G o)), (1, .int (jI a1))]) C h hl rfl (by decide) (fun _ => rfl) dX7_recordAt_88 (fun x9 h r_x9 ls hl => ?_)
              refine lv_goto (tgt := 12) C.1 C.2.1 dX7_recordAt_91 (by decide) ?_
              exact ih12 _ _ _ _ _ h r_x8 r_x9 B (lv_sub hl [1, 0, 3, 4] rfl)
            · refine lv_iload_n C.1 C.2.1 dX7_recordAt_86 rfl (lv_at hl 1 rfl) ?_
              refine lv_istore_n (lv' := [(2, .int (jI x1)), (4, .int (jI x7)), (3, .int (jI x2)), (0, .ref (jD G o)), (1, .int (jI a1))]) C.1 C.2.1 dX7_recordAt_87 rfl hl (by decide) rfl (fun ls hl => ?_)
              refine jr_iinc (k := 2) (lv' := fun x10 => [(3, .int (jI x10)), (2, .int (jI x1)), (4, .int (jI x7)), (0, .ref (jD G o)), (1, .int (jI a1))]) C h hl rfl (by decide) (fun _ => rfl) dX7_recordAt_88 (fun x10 h r_x10 ls hl => ?_)
              refine lv_goto (tgt := 12) C.1 C.2.1 dX7_recordAt_91 (by decide) ?_
              exact ih12 _ _ _ _ _ h r_x1 r_x10 B (lv_sub hl [1, 0, 3, 4] rfl)
          have hL28 : ∀ (n : Nat) (x5 : Int) (x6 : Int) (H : Heap) (locs : List Loc) (ls : Array Slot), lp_X7_recordAt_28 o x2 M kx28 n x5 x6 → jR x5 → jR x6 → Hp G M s.heap H locs → lv_has ls 6 [(4, .int (jI x5)), (5, .int (jI x6)), (2, .int (jI x1)), (3, .int (jI x2)), (0, .ref (jD G o)), (1, .int (jI a1))] → W p l e (rmm 1 22) s m args below meth c H locs 0 0 (MQ below (qI G (fun r M' => M' = M ∧ k r)) args s 0 0 (gA G)) (F0 m 28 ls []) := by
            intro n
            induction n with
            | zero => intro x5 x6 H locs ls h; exact (show False from h).elim
            | succ n ih28 =>
              intro x5 x6 H locs ls h r_x5 r_x6 B hl
              rw [lp_X7_recordAt_28] at h
              refine lv_iload C.1 C.2.1 dX7_recordAt_28 (lv_at hl 1 rfl) ?_
              refine lv_aload_n C.1 C.2.1 dX7_recordAt_30 rfl (lv_at hl 4 rfl) ?_
              refine gf_X7_7 C B k_o dX7_recordAt_31 ?_
              refine jr_iconst C dX7_recordAt_34 ?_
              obtain ⟨g11, h⟩ := h
              refine jr_iald C B 1115 (jk1 (ko_X7_0 k_o) rfl) (jk2 (ko_X7_0 k_o) rfl) (jkc rfl) g11 dX7_recordAt_35 ?_
              refine jr_icmp_ge (tgt := 71) C r_x6 (o_M (o + 1) 0).1 h dX7_recordAt_36 (by decide) (fun hc36 h => ?_) (fun hc36 h => ?_)
              · refine lv_iload C.1 C.2.1 dX7_recordAt_39 (lv_at hl 0 rfl) ?_
                refine lv_aload_n C.1 C.2.1 dX7_recordAt_41 rfl (lv_at hl 4 rfl) ?_
                refine lv_iload C.1 C.2.1 dX7_recordAt_42 (lv_at hl 1 rfl) ?_
                refine jr_iconst C dX7_recordAt_44 ?_
                refine cl_X7_of C hl.1 B q_754 ⟨Nat.le_of_ble_eq_true rfl, Nat.le_of_ble_eq_true rfl⟩ ⟨Nat.zero_le _, Nat.zero_le _⟩ (Nat.le_of_ble_eq_true rfl) k_o r_x6 (jkc rfl) h dX7_recordAt_45 (fun x12 r_x12 _ _ h B => ?_)
                refine lv_aload_n C.1 C.2.1 dX7_recordAt_48 rfl (lv_at hl 4 rfl) ?_
                refine lv_iload_n C.1 C.2.1 dX7_recordAt_49 rfl (lv_at hl 3 rfl) ?_
                refine jr_iconst C dX7_recordAt_50 ?_
                refine cl_X7_of C hl.1 B q_754 ⟨Nat.le_of_ble_eq_true rfl, Nat.le_of_ble_eq_true rfl⟩ ⟨Nat.zero_le _, Nat.zero_le _⟩ (Nat.le_of_ble_eq_true rfl) k_o r_x2 (jkc rfl) h dX7_recordAt_51 (fun x13 r_x13 _ _ h B => ?_)
                refine jr_icmp_ge (tgt := 61) C r_x12 r_x13 h dX7_recordAt_54 (by decide) (fun hc54 h => ?_) (fun hc54 h => ?_)
                · refine jr_iconst C dX7_recordAt_57 ?_
                  refine lv_goto (tgt := 62) C.1 C.2.1 dX7_recordAt_58 (by decide) ?_
                  refine jr_iadd C dX7_recordAt_62 ?_
                  refine jr_nm h (jW_R _) (fun x14 h r_x14 => ?_)
                  refine lv_istore (lv' := [(4, .int (jI x14)), (5, .int (jI x6)), (2, .int (jI x1)), (3, .int (jI x2)), (0, .ref (jD G o)), (1, .int (jI a1))]) C.1 C.2.1 dX7_recordAt_63 hl (by decide) rfl (fun ls hl => ?_)
                  refine jr_iinc (k := 1) (lv' := fun x15 => [(5, .int (jI x15)), (4, .int (jI x14)), (2, .int (jI x1)), (3, .int (jI x2)), (0, .ref (jD G o)), (1, .int (jI a1))]) C h hl rfl (by decide) (fun _ => rfl) dX7_recordAt_65 (fun x15 h r_x15 ls hl => ?_)
                  refine lv_goto (tgt := 28) C.1 C.2.1 dX7_recordAt_68 (by decide) ?_
                  exact ih28 _ _ _ _ _ h r_x14 r_x15 B (lv_sub hl [1, 0, 2, 3, 4, 5] rfl)
                · refine jr_iconst C dX7_recordAt_61 ?_
                  refine jr_iadd C dX7_recordAt_62 ?_
                  refine jr_nm h (jW_R _) (fun x16 h r_x16 => ?_)
                  refine lv_istore (lv' := [(4, .int (jI x16)), (5, .int (jI x6)), (2, .int (jI x1)), (3, .int (jI x2)), (0, .ref (jD G o)), (1, .int (jI a1))]) C.1 C.2.1 dX7_recordAt_63 hl (by decide) rfl (fun ls hl => ?_)
                  refine jr_iinc (k := 1) (lv' := fun x17 => [(5, .int (jI x17)), (4, .int (jI x16)), (2, .int (jI x1)), (3, .int (jI x2)), (0, .ref (jD G o)), (1, .int (jI a1))]) C h hl rfl (by decide) (fun _ => rfl) dX7_recordAt_65 (fun x17 h r_x17 ls hl => ?_)
                  refine lv_goto (tgt := 28) C.1 C.2.1 dX7_recordAt_68 (by decide) ?_
                  exact ih28 _ _ _ _ _ h r_x16 r_x17 B (lv_sub hl [1, 0, 2, 3, 4, 5] rfl)
              · exact hkx28 _ _ _ _ h r_x5 B (lv_sub hl [0, 2, 3, 4, 5] rfl)
          exact hL28 N _ _ _ _ _ h (jkc rfl) (jkc rfl) B (lv_sub hl [1, 0, 2, 3, 4, 5] rfl)
        · exact hkx12 _ _ _ _ h r_x1 B (lv_sub hl [0] rfl)
    exact hL12 N _ _ _ _ _ h (jkc rfl) (jkc rfl) B (lv_sub hl [1, 0, 2, 3] rfl)
theorem cl_X7_recordAt {p : Program} {l : Launch} {e : Env} {R : Room} {s : State} {m : MethodId} {args : Array Value} {below : List Frame} {meth : Method} {c : Code} {H : Heap} {locs : List Loc} {cells slots : Nat} {Q : State → Prop} {cc : ByteArray} {nL : Nat} {own : String} {G : jG} {H0 : Heap} {pc idx : Nat} {ls : Array Slot} {rest : List Value} {N : Nat} {M : jM} {o a1 : Int} {k : Int → Prop} (C : Cx G p s args m c cc nL own) (hl : ls.size = nL) (B : Hp G M H0 H locs) (q1 : Cond.methodLink own idx yX7_recordAt ∈ tb) (hR : (rmm 1 22).frames + 1 ≤ R.frames ∧ 8 + (6 + 11) + (rmm 1 22).locals ≤ R.locals) (hcs : cells ≤ R.cells ∧ slots ≤ R.slots) (hW : (rest.map fun v => v.category).sum ≤ 8) (k_o : jK o = 8) (r_a1 : jR a1) (h : w_X7_recordAt N M o a1 k) (hdg : decode cc pc = .ok (.invokevirtual idx, 3)) (kk : ∀ (r : Int), jR r → ∀ (H1 : Heap) (locs1 : List Loc), k r → Hp G M H0 H1 locs1 → W p l e R s m args below meth c H1 locs1 cells slots Q (F0 m (pc + 3) ls (.int (jI r) :: rest))) : W p l e R s m args below meth c H locs cells slots Q (F0 m pc ls (.int (jI a1) :: .ref (jD G o) :: rest)) :=
  jr_callI B (jr_runV (o := o) (As := [.int (jI a1)]) (n := 1) C hl B (m_X7_recordAt B.2.2 k_o r_a1 h) (jE8 k_o) (by omega) rfl q1 q_1046 q_1047 q_1048 q_8 ⟨by decide, by decide, by decide +kernel⟩ rfl ⟨rfl, rfl⟩ hR hcs rfl hW hdg) (fun r M' H1 locs1 hr hk B1 => by obtain ⟨rfl, hk⟩ := hk; exact kk r hr H1 locs1 hk B1)
def w_X7_locker (N : Nat) (M : jM) (o : Int) (a1 : Int) (k : Int → Prop) : Prop := (w_X7_placeOf N M o a1 (fun x1 => (if x1 < 0 then (k (-1000001)) else (w_X7_of M o x1 1 (fun x2 => (if x2 = 0 then (k (-1000007)) else (w_X7_of M o x1 1 (fun x3 => (k (jW (x3 - 1)))))))))))
set_option maxHeartbeats 4000000 in
set_option maxRecDepth 100000 in
theorem m_X7_locker {l : Launch} {G : jG} {N : Nat} {M : jM} {o a1 : Int} {k : Int → Prop} (o_M : jOK M) (k_o : jK o = 8) (r_a1 : jR a1) (h : w_X7_locker N M o a1 k) : Met l yX7_locker (wsG yX7_locker cX7_locker 3 (some .int)) (rmm 2 45) (jPc G M [.ref (jD G o), .int (jI a1)]) (qI G (fun r M' => M' = M ∧ k r)) 0 0 (gA G) := by
  refine jm_start RX7 rfl (by decide) (Nat.le_of_ble_eq_true rfl) o_M ?_
  intro p e s m args below meth c ls C hr hlocks hl B
  have hl : lv_has ls 3 [(0, .ref (jD G o)), (1, .int (jI a1))] := hl
  unfold w_X7_locker at h
  refine lv_aload_n C.1 C.2.1 dX7_locker_0 rfl (lv_at hl 0 rfl) ?_
  refine lv_iload_n C.1 C.2.1 dX7_locker_1 rfl (lv_at hl 1 rfl) ?_
  refine cl_X7_placeOf C hl.1 B q_749 ⟨Nat.le_of_ble_eq_true rfl, Nat.le_of_ble_eq_true rfl⟩ ⟨Nat.zero_le _, Nat.zero_le _⟩ (Nat.le_of_ble_eq_true rfl) k_o r_a1 h dX7_locker_2 (fun x1 r_x1 _ _ h B => ?_)
  refine lv_istore_n (lv' := [(2, .int (jI x1)), (0, .ref (jD G o)), (1, .int (jI a1))]) C.1 C.2.1 dX7_locker_5 rfl hl (by decide) rfl (fun ls hl => ?_)
  refine lv_iload_n C.1 C.2.1 dX7_locker_6 rfl (lv_at hl 0 rfl) ?_
  refine jr_if_ge (tgt := 15) C r_x1 h dX7_locker_7 (by decide) (fun hc7 h => ?_) (fun hc7 h => ?_)
  · refine jr_ldc (n := -1000001) C q_753 (by decide) dX7_locker_10 ?_
    refine lv_goto (tgt := 37) C.1 C.2.1 dX7_locker_12 (by decide) ?_
    exact jr_iret C B hr hlocks (jkc rfl) ⟨rfl, h⟩ dX7_locker_37
  · refine lv_aload_n C.1 C.2.1 dX7_locker_15 rfl (lv_at hl 1 rfl) ?_
    refine lv_iload_n C.1 C.2.1 dX7_locker_16 rfl (lv_at hl 0 rfl) ?_
    refine jr_iconst C dX7_locker_17 ?_
    refine cl_X7_of C hl.1 B q_754 ⟨Nat.le_of_ble_eq_true rfl, Nat.le_of_ble_eq_true rfl⟩ ⟨Nat.zero_le _, Nat.zero_le _⟩ (Nat.le_of_ble_eq_true rfl) k_o r_x1 (jkc rfl) h dX7_locker_18 (fun x2 r_x2 _ _ h B => ?_)
    refine jr_if_ne (tgt := 29) C r_x2 h dX7_locker_21 (by decide) (fun hc21 h => ?_) (fun hc21 h => ?_)
    · refine jr_ldc (n := -1000007) C q_892 (by decide) dX7_locker_24 ?_
      refine lv_goto (tgt := 37) C.1 C.2.1 dX7_locker_26 (by decide) ?_
      exact jr_iret C B hr hlocks (jkc rfl) ⟨rfl, h⟩ dX7_locker_37
    · refine lv_aload_n C.1 C.2.1 dX7_locker_29 rfl (lv_at hl 1 rfl) ?_
      refine lv_iload_n C.1 C.2.1 dX7_locker_30 rfl (lv_at hl 0 rfl) ?_
      refine jr_iconst C dX7_locker_31 ?_
      refine cl_X7_of C hl.1 B q_754 ⟨Nat.le_of_ble_eq_true rfl, Nat.le_of_ble_eq_true rfl⟩ ⟨Nat.zero_le _, Nat.zero_le _⟩ (Nat.le_of_ble_eq_true rfl) k_o r_x1 (jkc rfl) h dX7_locker_32 (fun x3 r_x3 _ _ h B => ?_)
      refine jr_iconst C dX7_locker_35 ?_
      refine jr_isub C dX7_locker_36 ?_
      exact jr_iret C B hr hlocks (jW_R _) ⟨rfl, h⟩ dX7_locker_37
theorem cl_X7_locker {p : Program} {l : Launch} {e : Env} {R : Room} {s : State} {m : MethodId} {args : Array Value} {below : List Frame} {meth : Method} {c : Code} {H : Heap} {locs : List Loc} {cells slots : Nat} {Q : State → Prop} {cc : ByteArray} {nL : Nat} {own : String} {G : jG} {H0 : Heap} {pc idx : Nat} {ls : Array Slot} {rest : List Value} {N : Nat} {M : jM} {o a1 : Int} {k : Int → Prop} (C : Cx G p s args m c cc nL own) (hl : ls.size = nL) (B : Hp G M H0 H locs) (q1 : Cond.methodLink own idx yX7_locker ∈ tb) (hR : (rmm 2 45).frames + 1 ≤ R.frames ∧ 8 + (3 + 11) + (rmm 2 45).locals ≤ R.locals) (hcs : cells ≤ R.cells ∧ slots ≤ R.slots) (hW : (rest.map fun v => v.category).sum ≤ 8) (k_o : jK o = 8) (r_a1 : jR a1) (h : w_X7_locker N M o a1 k) (hdg : decode cc pc = .ok (.invokevirtual idx, 3)) (kk : ∀ (r : Int), jR r → ∀ (H1 : Heap) (locs1 : List Loc), k r → Hp G M H0 H1 locs1 → W p l e R s m args below meth c H1 locs1 cells slots Q (F0 m (pc + 3) ls (.int (jI r) :: rest))) : W p l e R s m args below meth c H locs cells slots Q (F0 m pc ls (.int (jI a1) :: .ref (jD G o) :: rest)) :=
  jr_callI B (jr_runV (o := o) (As := [.int (jI a1)]) (n := 1) C hl B (m_X7_locker B.2.2 k_o r_a1 h) (jE8 k_o) (by omega) rfl q1 q_1050 q_1051 q_1052 q_8 ⟨by decide, by decide, by decide +kernel⟩ rfl ⟨rfl, rfl⟩ hR hcs rfl hW hdg) (fun r M' H1 locs1 hr hk B1 => by obtain ⟨rfl, hk⟩ := hk; exact kk r hr H1 locs1 hk B1)
def w_X7_values (N : Nat) (M : jM) (o : Int) (a1 : Int) (a2 : Int) (k : Int → Prop) : Prop := (w_X7_placeOf N M o a1 (fun x1 => (if x1 < 0 then (k (-1000001)) else (w_X7_isField a2 (fun x2 => (if x2 = 0 then (k (-1000001)) else (w_X7_valuesOf M o x1 a2 (fun x3 => (k x3)))))))))
set_option maxHeartbeats 4000000 in
set_option maxRecDepth 100000 in
theorem m_X7_values {l : Launch} {G : jG} {N : Nat} {M : jM} {o a1 a2 : Int} {k : Int → Prop} (o_M : jOK M) (k_o : jK o = 8) (r_a1 : jR a1) (r_a2 : jR a2) (h : w_X7_values N M o a1 a2 k) : Met l yX7_values (wsG yX7_values cX7_values 4 (some .int)) (rmm 2 45) (jPc G M [.ref (jD G o), .int (jI a1), .int (jI a2)]) (qI G (fun r M' => M' = M ∧ k r)) 0 0 (gA G) := by
  refine jm_start RX7 rfl (by decide) (Nat.le_of_ble_eq_true rfl) o_M ?_
  intro p e s m args below meth c ls C hr hlocks hl B
  have hl : lv_has ls 4 [(0, .ref (jD G o)), (1, .int (jI a1)), (2, .int (jI a2))] := hl
  unfold w_X7_values at h
  refine lv_aload_n C.1 C.2.1 dX7_values_0 rfl (lv_at hl 0 rfl) ?_
  refine lv_iload_n C.1 C.2.1 dX7_values_1 rfl (lv_at hl 1 rfl) ?_
  refine cl_X7_placeOf C hl.1 B q_749 ⟨Nat.le_of_ble_eq_true rfl, Nat.le_of_ble_eq_true rfl⟩ ⟨Nat.zero_le _, Nat.zero_le _⟩ (Nat.le_of_ble_eq_true rfl) k_o r_a1 h dX7_values_2 (fun x1 r_x1 _ _ h B => ?_)
  refine lv_istore_n (lv' := [(3, .int (jI x1)), (0, .ref (jD G o)), (1, .int (jI a1)), (2, .int (jI a2))]) C.1 C.2.1 dX7_values_5 rfl hl (by decide) rfl (fun ls hl => ?_)
  refine lv_iload_n C.1 C.2.1 dX7_values_6 rfl (lv_at hl 0 rfl) ?_
  refine jr_if_lt (tgt := 17) C r_x1 h dX7_values_7 (by decide) (fun hc7 h => ?_) (fun hc7 h => ?_)
  · refine jr_ldc (n := -1000001) C q_753 (by decide) dX7_values_17 ?_
    refine lv_goto (tgt := 28) C.1 C.2.1 dX7_values_19 (by decide) ?_
    exact jr_iret C B hr hlocks (jkc rfl) ⟨rfl, h⟩ dX7_values_28
  · refine lv_iload_n C.1 C.2.1 dX7_values_10 rfl (lv_at hl 3 rfl) ?_
    refine cl_X7_isField C hl.1 B q_812 ⟨Nat.le_of_ble_eq_true rfl, Nat.le_of_ble_eq_true rfl⟩ ⟨Nat.zero_le _, Nat.zero_le _⟩ (Nat.le_of_ble_eq_true rfl) r_a2 h dX7_values_11 (fun x2 z_x2 _ _ h B => ?_)
    refine jr_if_ne (tgt := 22) C (zR z_x2) h dX7_values_14 (by decide) (fun hc14 h => ?_) (fun hc14 h => ?_)
    · refine jr_ldc (n := -1000001) C q_753 (by decide) dX7_values_17 ?_
      refine lv_goto (tgt := 28) C.1 C.2.1 dX7_values_19 (by decide) ?_
      exact jr_iret C B hr hlocks (jkc rfl) ⟨rfl, h⟩ dX7_values_28
    · refine lv_aload_n C.1 C.2.1 dX7_values_22 rfl (lv_at hl 1 rfl) ?_
      refine lv_iload_n C.1 C.2.1 dX7_values_23 rfl (lv_at hl 0 rfl) ?_
      refine lv_iload_n C.1 C.2.1 dX7_values_24 rfl (lv_at hl 3 rfl) ?_
      refine cl_X7_valuesOf C hl.1 B q_815 ⟨Nat.le_of_ble_eq_true rfl, Nat.le_of_ble_eq_true rfl⟩ ⟨Nat.zero_le _, Nat.zero_le _⟩ (Nat.le_of_ble_eq_true rfl) k_o r_x1 r_a2 h dX7_values_25 (fun x3 r_x3 _ _ h B => ?_)
      exact jr_iret C B hr hlocks r_x3 ⟨rfl, h⟩ dX7_values_28
theorem cl_X7_values {p : Program} {l : Launch} {e : Env} {R : Room} {s : State} {m : MethodId} {args : Array Value} {below : List Frame} {meth : Method} {c : Code} {H : Heap} {locs : List Loc} {cells slots : Nat} {Q : State → Prop} {cc : ByteArray} {nL : Nat} {own : String} {G : jG} {H0 : Heap} {pc idx : Nat} {ls : Array Slot} {rest : List Value} {N : Nat} {M : jM} {o a1 a2 : Int} {k : Int → Prop} (C : Cx G p s args m c cc nL own) (hl : ls.size = nL) (B : Hp G M H0 H locs) (q1 : Cond.methodLink own idx yX7_values ∈ tb) (hR : (rmm 2 45).frames + 1 ≤ R.frames ∧ 8 + (4 + 11) + (rmm 2 45).locals ≤ R.locals) (hcs : cells ≤ R.cells ∧ slots ≤ R.slots) (hW : (rest.map fun v => v.category).sum ≤ 8) (k_o : jK o = 8) (r_a1 : jR a1) (r_a2 : jR a2) (h : w_X7_values N M o a1 a2 k) (hdg : decode cc pc = .ok (.invokevirtual idx, 3)) (kk : ∀ (r : Int), jR r → ∀ (H1 : Heap) (locs1 : List Loc), k r → Hp G M H0 H1 locs1 → W p l e R s m args below meth c H1 locs1 cells slots Q (F0 m (pc + 3) ls (.int (jI r) :: rest))) : W p l e R s m args below meth c H locs cells slots Q (F0 m pc ls (.int (jI a2) :: .int (jI a1) :: .ref (jD G o) :: rest)) :=
  jr_callI B (jr_runV (o := o) (As := [.int (jI a1), .int (jI a2)]) (n := 2) C hl B (m_X7_values B.2.2 k_o r_a1 r_a2 h) (jE8 k_o) (by omega) rfl q1 q_1054 q_1055 q_1056 q_8 ⟨by decide, by decide, by decide +kernel⟩ rfl ⟨rfl, rfl⟩ hR hcs rfl hW hdg) (fun r M' H1 locs1 hr hk B1 => by obtain ⟨rfl, hk⟩ := hk; exact kk r hr H1 locs1 hk B1)
def w_X7_subvalues (N : Nat) (M : jM) (o : Int) (a1 : Int) (a2 : Int) (a3 : Int) (k : Int → Prop) : Prop := (w_X7_placeOf N M o a1 (fun x1 => (if x1 < 0 then (k (-1000001)) else (w_X7_isField a2 (fun x2 => (if x2 = 0 then (k (-1000001)) else (w_X7_hasValue M o x1 a2 a3 (fun x3 => (if x3 = 0 then (k (-1000001)) else (w_X7_subsOf M o x1 a2 a3 (fun x4 => (k x4))))))))))))
set_option maxHeartbeats 4000000 in
set_option maxRecDepth 100000 in
theorem m_X7_subvalues {l : Launch} {G : jG} {N : Nat} {M : jM} {o a1 a2 a3 : Int} {k : Int → Prop} (o_M : jOK M) (k_o : jK o = 8) (r_a1 : jR a1) (r_a2 : jR a2) (r_a3 : jR a3) (h : w_X7_subvalues N M o a1 a2 a3 k) : Met l yX7_subvalues (wsG yX7_subvalues cX7_subvalues 5 (some .int)) (rmm 3 67) (jPc G M [.ref (jD G o), .int (jI a1), .int (jI a2), .int (jI a3)]) (qI G (fun r M' => M' = M ∧ k r)) 0 0 (gA G) := by
  refine jm_start RX7 rfl (by decide) (Nat.le_of_ble_eq_true rfl) o_M ?_
  intro p e s m args below meth c ls C hr hlocks hl B
  have hl : lv_has ls 5 [(0, .ref (jD G o)), (1, .int (jI a1)), (2, .int (jI a2)), (3, .int (jI a3))] := hl
  unfold w_X7_subvalues at h
  refine lv_aload_n C.1 C.2.1 dX7_subvalues_0 rfl (lv_at hl 0 rfl) ?_
  refine lv_iload_n C.1 C.2.1 dX7_subvalues_1 rfl (lv_at hl 1 rfl) ?_
  refine cl_X7_placeOf C hl.1 B q_749 ⟨Nat.le_of_ble_eq_true rfl, Nat.le_of_ble_eq_true rfl⟩ ⟨Nat.zero_le _, Nat.zero_le _⟩ (Nat.le_of_ble_eq_true rfl) k_o r_a1 h dX7_subvalues_2 (fun x1 r_x1 _ _ h B => ?_)
  refine lv_istore (lv' := [(4, .int (jI x1)), (0, .ref (jD G o)), (1, .int (jI a1)), (2, .int (jI a2)), (3, .int (jI a3))]) C.1 C.2.1 dX7_subvalues_5 hl (by decide) rfl (fun ls hl => ?_)
  refine lv_iload C.1 C.2.1 dX7_subvalues_7 (lv_at hl 0 rfl) ?_
  refine jr_if_lt (tgt := 30) C r_x1 h dX7_subvalues_9 (by decide) (fun hc9 h => ?_) (fun hc9 h => ?_)
  · refine jr_ldc (n := -1000001) C q_753 (by decide) dX7_subvalues_30 ?_
    refine lv_goto (tgt := 43) C.1 C.2.1 dX7_subvalues_32 (by decide) ?_
    exact jr_iret C B hr hlocks (jkc rfl) ⟨rfl, h⟩ dX7_subvalues_43
  · refine lv_iload_n C.1 C.2.1 dX7_subvalues_12 rfl (lv_at hl 3 rfl) ?_
    refine cl_X7_isField C hl.1 B q_812 ⟨Nat.le_of_ble_eq_true rfl, Nat.le_of_ble_eq_true rfl⟩ ⟨Nat.zero_le _, Nat.zero_le _⟩ (Nat.le_of_ble_eq_true rfl) r_a2 h dX7_subvalues_13 (fun x2 z_x2 _ _ h B => ?_)
    refine jr_if_eq (tgt := 30) C (zR z_x2) h dX7_subvalues_16 (by decide) (fun hc16 h => ?_) (fun hc16 h => ?_)
    · refine jr_ldc (n := -1000001) C q_753 (by decide) dX7_subvalues_30 ?_
      refine lv_goto (tgt := 43) C.1 C.2.1 dX7_subvalues_32 (by decide) ?_
      exact jr_iret C B hr hlocks (jkc rfl) ⟨rfl, h⟩ dX7_subvalues_43
    · refine lv_aload_n C.1 C.2.1 dX7_subvalues_19 rfl (lv_at hl 1 rfl) ?_
      refine lv_iload C.1 C.2.1 dX7_subvalues_20 (lv_at hl 0 rfl) ?_
      refine lv_iload_n C.1 C.2.1 dX7_subvalues_22 rfl (lv_at hl 3 rfl) ?_
      refine lv_iload_n C.1 C.2.1 dX7_subvalues_23 rfl (lv_at hl 4 rfl) ?_
      refine cl_X7_hasValue C hl.1 B q_819 ⟨Nat.le_of_ble_eq_true rfl, Nat.le_of_ble_eq_true rfl⟩ ⟨Nat.zero_le _, Nat.zero_le _⟩ (Nat.le_of_ble_eq_true rfl) k_o r_x1 r_a2 r_a3 h dX7_subvalues_24 (fun x3 z_x3 _ _ h B => ?_)
      refine jr_if_ne (tgt := 35) C (zR z_x3) h dX7_subvalues_27 (by decide) (fun hc27 h => ?_) (fun hc27 h => ?_)
      · refine jr_ldc (n := -1000001) C q_753 (by decide) dX7_subvalues_30 ?_
        refine lv_goto (tgt := 43) C.1 C.2.1 dX7_subvalues_32 (by decide) ?_
        exact jr_iret C B hr hlocks (jkc rfl) ⟨rfl, h⟩ dX7_subvalues_43
      · refine lv_aload_n C.1 C.2.1 dX7_subvalues_35 rfl (lv_at hl 1 rfl) ?_
        refine lv_iload C.1 C.2.1 dX7_subvalues_36 (lv_at hl 0 rfl) ?_
        refine lv_iload_n C.1 C.2.1 dX7_subvalues_38 rfl (lv_at hl 3 rfl) ?_
        refine lv_iload_n C.1 C.2.1 dX7_subvalues_39 rfl (lv_at hl 4 rfl) ?_
        refine cl_X7_subsOf C hl.1 B q_823 ⟨Nat.le_of_ble_eq_true rfl, Nat.le_of_ble_eq_true rfl⟩ ⟨Nat.zero_le _, Nat.zero_le _⟩ (Nat.le_of_ble_eq_true rfl) k_o r_x1 r_a2 r_a3 h dX7_subvalues_40 (fun x4 r_x4 _ _ h B => ?_)
        exact jr_iret C B hr hlocks r_x4 ⟨rfl, h⟩ dX7_subvalues_43
theorem cl_X7_subvalues {p : Program} {l : Launch} {e : Env} {R : Room} {s : State} {m : MethodId} {args : Array Value} {below : List Frame} {meth : Method} {c : Code} {H : Heap} {locs : List Loc} {cells slots : Nat} {Q : State → Prop} {cc : ByteArray} {nL : Nat} {own : String} {G : jG} {H0 : Heap} {pc idx : Nat} {ls : Array Slot} {rest : List Value} {N : Nat} {M : jM} {o a1 a2 a3 : Int} {k : Int → Prop} (C : Cx G p s args m c cc nL own) (hl : ls.size = nL) (B : Hp G M H0 H locs) (q1 : Cond.methodLink own idx yX7_subvalues ∈ tb) (hR : (rmm 3 67).frames + 1 ≤ R.frames ∧ 8 + (5 + 11) + (rmm 3 67).locals ≤ R.locals) (hcs : cells ≤ R.cells ∧ slots ≤ R.slots) (hW : (rest.map fun v => v.category).sum ≤ 8) (k_o : jK o = 8) (r_a1 : jR a1) (r_a2 : jR a2) (r_a3 : jR a3) (h : w_X7_subvalues N M o a1 a2 a3 k) (hdg : decode cc pc = .ok (.invokevirtual idx, 3)) (kk : ∀ (r : Int), jR r → ∀ (H1 : Heap) (locs1 : List Loc), k r → Hp G M H0 H1 locs1 → W p l e R s m args below meth c H1 locs1 cells slots Q (F0 m (pc + 3) ls (.int (jI r) :: rest))) : W p l e R s m args below meth c H locs cells slots Q (F0 m pc ls (.int (jI a3) :: .int (jI a2) :: .int (jI a1) :: .ref (jD G o) :: rest)) :=
  jr_callI B (jr_runV (o := o) (As := [.int (jI a1), .int (jI a2), .int (jI a3)]) (n := 3) C hl B (m_X7_subvalues B.2.2 k_o r_a1 r_a2 r_a3 h) (jE8 k_o) (by omega) rfl q1 q_1058 q_1059 q_1060 q_8 ⟨by decide, by decide, by decide +kernel⟩ rfl ⟨rfl, rfl⟩ hR hcs rfl hW hdg) (fun r M' H1 locs1 hr hk B1 => by obtain ⟨rfl, hk⟩ := hk; exact kk r hr H1 locs1 hk B1)
def w_X7_get (N : Nat) (M : jM) (o : Int) (a1 : Int) (a2 : Int) (a3 : Int) (a4 : Int) (k : Int → Prop) : Prop := (w_X7_placeOf N M o a1 (fun x1 => (if x1 < 0 then (k (-1000001)) else (w_X7_isField a2 (fun x2 => (if x2 = 0 then (k (-1000001)) else (w_X7_hasSub M o x1 a2 a3 a4 (fun x3 => (if x3 = 0 then (k (-1000001)) else (w_X7_numberOf M o x1 a2 a3 a4 (fun x4 => (k x4))))))))))))
set_option maxHeartbeats 4000000 in
set_option maxRecDepth 100000 in
theorem m_X7_get {l : Launch} {G : jG} {N : Nat} {M : jM} {o a1 a2 a3 a4 : Int} {k : Int → Prop} (o_M : jOK M) (k_o : jK o = 8) (r_a1 : jR a1) (r_a2 : jR a2) (r_a3 : jR a3) (r_a4 : jR a4) (h : w_X7_get N M o a1 a2 a3 a4 k) : Met l yX7_get (wsG yX7_get cX7_get 6 (some .int)) (rmm 4 91) (jPc G M [.ref (jD G o), .int (jI a1), .int (jI a2), .int (jI a3), .int (jI a4)]) (qI G (fun r M' => M' = M ∧ k r)) 0 0 (gA G) := by
  refine jm_start RX7 rfl (by decide) (Nat.le_of_ble_eq_true rfl) o_M ?_
  intro p e s m args below meth c ls C hr hlocks hl B
  have hl : lv_has ls 6 [(0, .ref (jD G o)), (1, .int (jI a1)), (2, .int (jI a2)), (3, .int (jI a3)), (4, .int (jI a4))] := hl
  unfold w_X7_get at h
  refine lv_aload_n C.1 C.2.1 dX7_get_0 rfl (lv_at hl 0 rfl) ?_
  refine lv_iload_n C.1 C.2.1 dX7_get_1 rfl (lv_at hl 1 rfl) ?_
  refine cl_X7_placeOf C hl.1 B q_749 ⟨Nat.le_of_ble_eq_true rfl, Nat.le_of_ble_eq_true rfl⟩ ⟨Nat.zero_le _, Nat.zero_le _⟩ (Nat.le_of_ble_eq_true rfl) k_o r_a1 h dX7_get_2 (fun x1 r_x1 _ _ h B => ?_)
  refine lv_istore (lv' := [(5, .int (jI x1)), (0, .ref (jD G o)), (1, .int (jI a1)), (2, .int (jI a2)), (3, .int (jI a3)), (4, .int (jI a4))]) C.1 C.2.1 dX7_get_5 hl (by decide) rfl (fun ls hl => ?_)
  refine lv_iload C.1 C.2.1 dX7_get_7 (lv_at hl 0 rfl) ?_
  refine jr_if_lt (tgt := 32) C r_x1 h dX7_get_9 (by decide) (fun hc9 h => ?_) (fun hc9 h => ?_)
  · refine jr_ldc (n := -1000001) C q_753 (by decide) dX7_get_32 ?_
    refine lv_goto (tgt := 47) C.1 C.2.1 dX7_get_34 (by decide) ?_
    exact jr_iret C B hr hlocks (jkc rfl) ⟨rfl, h⟩ dX7_get_47
  · refine lv_iload_n C.1 C.2.1 dX7_get_12 rfl (lv_at hl 3 rfl) ?_
    refine cl_X7_isField C hl.1 B q_812 ⟨Nat.le_of_ble_eq_true rfl, Nat.le_of_ble_eq_true rfl⟩ ⟨Nat.zero_le _, Nat.zero_le _⟩ (Nat.le_of_ble_eq_true rfl) r_a2 h dX7_get_13 (fun x2 z_x2 _ _ h B => ?_)
    refine jr_if_eq (tgt := 32) C (zR z_x2) h dX7_get_16 (by decide) (fun hc16 h => ?_) (fun hc16 h => ?_)
    · refine jr_ldc (n := -1000001) C q_753 (by decide) dX7_get_32 ?_
      refine lv_goto (tgt := 47) C.1 C.2.1 dX7_get_34 (by decide) ?_
      exact jr_iret C B hr hlocks (jkc rfl) ⟨rfl, h⟩ dX7_get_47
    · refine lv_aload_n C.1 C.2.1 dX7_get_19 rfl (lv_at hl 1 rfl) ?_
      refine lv_iload C.1 C.2.1 dX7_get_20 (lv_at hl 0 rfl) ?_
      refine lv_iload_n C.1 C.2.1 dX7_get_22 rfl (lv_at hl 3 rfl) ?_
      refine lv_iload_n C.1 C.2.1 dX7_get_23 rfl (lv_at hl 4 rfl) ?_
      refine lv_iload C.1 C.2.1 dX7_get_24 (lv_at hl 5 rfl) ?_
      refine cl_X7_hasSub C hl.1 B q_856 ⟨Nat.le_of_ble_eq_true rfl, Nat.le_of_ble_eq_true rfl⟩ ⟨Nat.zero_le _, Nat.zero_le _⟩ (Nat.le_of_ble_eq_true rfl) k_o r_x1 r_a2 r_a3 r_a4 h dX7_get_26 (fun x3 z_x3 _ _ h B => ?_)
      refine jr_if_ne (tgt := 37) C (zR z_x3) h dX7_get_29 (by decide) (fun hc29 h => ?_) (fun hc29 h => ?_)
      · refine jr_ldc (n := -1000001) C q_753 (by decide) dX7_get_32 ?_
        refine lv_goto (tgt := 47) C.1 C.2.1 dX7_get_34 (by decide) ?_
        exact jr_iret C B hr hlocks (jkc rfl) ⟨rfl, h⟩ dX7_get_47
      · refine lv_aload_n C.1 C.2.1 dX7_get_37 rfl (lv_at hl 1 rfl) ?_
        refine lv_iload C.1 C.2.1 dX7_get_38 (lv_at hl 0 rfl) ?_
        refine lv_iload_n C.1 C.2.1 dX7_get_40 rfl (lv_at hl 3 rfl) ?_
        refine lv_iload_n C.1 C.2.1 dX7_get_41 rfl (lv_at hl 4 rfl) ?_
        refine lv_iload C.1 C.2.1 dX7_get_42 (lv_at hl 5 rfl) ?_
        refine cl_X7_numberOf C hl.1 B q_844 ⟨Nat.le_of_ble_eq_true rfl, Nat.le_of_ble_eq_true rfl⟩ ⟨Nat.zero_le _, Nat.zero_le _⟩ (Nat.le_of_ble_eq_true rfl) k_o r_x1 r_a2 r_a3 r_a4 h dX7_get_44 (fun x4 r_x4 _ _ h B => ?_)
        exact jr_iret C B hr hlocks r_x4 ⟨rfl, h⟩ dX7_get_47
theorem cl_X7_get {p : Program} {l : Launch} {e : Env} {R : Room} {s : State} {m : MethodId} {args : Array Value} {below : List Frame} {meth : Method} {c : Code} {H : Heap} {locs : List Loc} {cells slots : Nat} {Q : State → Prop} {cc : ByteArray} {nL : Nat} {own : String} {G : jG} {H0 : Heap} {pc idx : Nat} {ls : Array Slot} {rest : List Value} {N : Nat} {M : jM} {o a1 a2 a3 a4 : Int} {k : Int → Prop} (C : Cx G p s args m c cc nL own) (hl : ls.size = nL) (B : Hp G M H0 H locs) (q1 : Cond.methodLink own idx yX7_get ∈ tb) (hR : (rmm 4 91).frames + 1 ≤ R.frames ∧ 8 + (6 + 11) + (rmm 4 91).locals ≤ R.locals) (hcs : cells ≤ R.cells ∧ slots ≤ R.slots) (hW : (rest.map fun v => v.category).sum ≤ 8) (k_o : jK o = 8) (r_a1 : jR a1) (r_a2 : jR a2) (r_a3 : jR a3) (r_a4 : jR a4) (h : w_X7_get N M o a1 a2 a3 a4 k) (hdg : decode cc pc = .ok (.invokevirtual idx, 3)) (kk : ∀ (r : Int), jR r → ∀ (H1 : Heap) (locs1 : List Loc), k r → Hp G M H0 H1 locs1 → W p l e R s m args below meth c H1 locs1 cells slots Q (F0 m (pc + 3) ls (.int (jI r) :: rest))) : W p l e R s m args below meth c H locs cells slots Q (F0 m pc ls (.int (jI a4) :: .int (jI a3) :: .int (jI a2) :: .int (jI a1) :: .ref (jD G o) :: rest)) :=
  jr_callI B (jr_runV (o := o) (As := [.int (jI a1), .int (jI a2), .int (jI a3), .int (jI a4)]) (n := 4) C hl B (m_X7_get B.2.2 k_o r_a1 r_a2 r_a3 r_a4 h) (jE8 k_o) (by omega) rfl q1 q_1062 q_1063 q_1064 q_8 ⟨by decide, by decide, by decide +kernel⟩ rfl ⟨rfl, rfl⟩ hR hcs rfl hW hdg) (fun r M' H1 locs1 hr hk B1 => by obtain ⟨rfl, hk⟩ := hk; exact kk r hr H1 locs1 hk B1)
def lp_X7_lines_18 (o : Int) (x1 : Int) (M : jM) (kx18 : Int → Prop) : Nat → Int → Int → Prop
  | 0, _, _ => False
  | n + 1, x2, x3 => (if x3 < 4 then (jB (jW (1 + x3)) 1115 ∧ (if (M (o + 1) (jW (1 + x3))) = 1 then (w_X7_valuesOf M o x1 x3 (fun x6 => (if x6 ≤ x2 then (jL (jW (x3 + 1)) (fun x7 => (lp_X7_lines_18 o x1 M kx18 n x2 x7))) else (w_X7_valuesOf M o x1 x3 (fun x8 => (jL (jW (x3 + 1)) (fun x9 => (lp_X7_lines_18 o x1 M kx18 n x8 x9)))))))) else (jL (jW (x3 + 1)) (fun x10 => (lp_X7_lines_18 o x1 M kx18 n x2 x10))))) else (kx18 x2))
def w_X7_lines (N : Nat) (M : jM) (o : Int) (a1 : Int) (k : Int → Prop) : Prop := (w_X7_placeOf N M o a1 (fun x1 => (if x1 < 0 then (k (-1000001)) else (lp_X7_lines_18 o x1 M (fun (x4 : Int) => (k x4)) N 0 0))))
set_option maxHeartbeats 4000000 in
set_option maxRecDepth 100000 in
theorem m_X7_lines {l : Launch} {G : jG} {N : Nat} {M : jM} {o a1 : Int} {k : Int → Prop} (o_M : jOK M) (k_o : jK o = 8) (r_a1 : jR a1) (h : w_X7_lines N M o a1 k) : Met l yX7_lines (wsG yX7_lines cX7_lines 5 (some .int)) (rmm 2 45) (jPc G M [.ref (jD G o), .int (jI a1)]) (qI G (fun r M' => M' = M ∧ k r)) 0 0 (gA G) := by
  refine jm_start RX7 rfl (by decide) (Nat.le_of_ble_eq_true rfl) o_M ?_
  intro p e s m args below meth c ls C hr hlocks hl B
  have hl : lv_has ls 5 [(0, .ref (jD G o)), (1, .int (jI a1))] := hl
  unfold w_X7_lines at h
  refine lv_aload_n C.1 C.2.1 dX7_lines_0 rfl (lv_at hl 0 rfl) ?_
  refine lv_iload_n C.1 C.2.1 dX7_lines_1 rfl (lv_at hl 1 rfl) ?_
  refine cl_X7_placeOf C hl.1 B q_749 ⟨Nat.le_of_ble_eq_true rfl, Nat.le_of_ble_eq_true rfl⟩ ⟨Nat.zero_le _, Nat.zero_le _⟩ (Nat.le_of_ble_eq_true rfl) k_o r_a1 h dX7_lines_2 (fun x1 r_x1 _ _ h B => ?_)
  refine lv_istore_n (lv' := [(2, .int (jI x1)), (0, .ref (jD G o)), (1, .int (jI a1))]) C.1 C.2.1 dX7_lines_5 rfl hl (by decide) rfl (fun ls hl => ?_)
  refine lv_iload_n C.1 C.2.1 dX7_lines_6 rfl (lv_at hl 0 rfl) ?_
  refine jr_if_ge (tgt := 13) C r_x1 h dX7_lines_7 (by decide) (fun hc7 h => ?_) (fun hc7 h => ?_)
  · refine jr_ldc (n := -1000001) C q_753 (by decide) dX7_lines_10 ?_
    exact jr_iret C B hr hlocks (jkc rfl) ⟨rfl, h⟩ dX7_lines_12
  · refine jr_iconst C dX7_lines_13 ?_
    refine lv_istore_n (lv' := [(3, .int (jI 0)), (2, .int (jI x1)), (0, .ref (jD G o)), (1, .int (jI a1))]) C.1 C.2.1 dX7_lines_14 rfl hl (by decide) rfl (fun ls hl => ?_)
    refine jr_iconst C dX7_lines_15 ?_
    refine lv_istore (lv' := [(4, .int (jI 0)), (3, .int (jI 0)), (2, .int (jI x1)), (0, .ref (jD G o)), (1, .int (jI a1))]) C.1 C.2.1 dX7_lines_16 hl (by decide) rfl (fun ls hl => ?_)
    obtain ⟨kx18, hkx18, h⟩ : ∃ kx18 : Int → Prop, (∀ (x4 : Int) (H : Heap) (locs : List Loc) (ls : Array Slot), kx18 x4 → jR x4 → Hp G M s.heap H locs → lv_has ls 5 [(3, .int (jI x4))] → W p l e (rmm 2 45) s m args below meth c H locs 0 0 (MQ below (qI G (fun r M' => M' = M ∧ k r)) args s 0 0 (gA G)) (F0 m 66 ls [])) ∧ lp_X7_lines_18 o x1 M kx18 N 0 0 := by
      refine ⟨_, ?_, h⟩
      intro x4 H locs ls h r_x4 B hl
      refine lv_iload_n C.1 C.2.1 dX7_lines_66 rfl (lv_at hl 0 rfl) ?_
      exact jr_iret C B hr hlocks r_x4 ⟨rfl, h⟩ dX7_lines_67
    have hL18 : ∀ (n : Nat) (x2 : Int) (x3 : Int) (H : Heap) (locs : List Loc) (ls : Array Slot), lp_X7_lines_18 o x1 M kx18 n x2 x3 → jR x2 → jR x3 → Hp G M s.heap H locs → lv_has ls 5 [(3, .int (jI x2)), (4, .int (jI x3)), (2, .int (jI x1)), (0, .ref (jD G o))] → W p l e (rmm 2 45) s m args below meth c H locs 0 0 (MQ below (qI G (fun r M' => M' = M ∧ k r)) args s 0 0 (gA G)) (F0 m 18 ls []) := by
      intro n
      induction n with
      | zero => intro x2 x3 H locs ls h; exact (show False from h).elim
      | succ n ih18 =>
        intro x2 x3 H locs ls h r_x2 r_x3 B hl
        rw [lp_X7_lines_18] at h
        refine lv_iload C.1 C.2.1 dX7_lines_18 (lv_at hl 1 rfl) ?_
        refine jr_iconst C dX7_lines_20 ?_
        refine jr_icmp_ge (tgt := 66) C r_x3 (jkc rfl) h dX7_lines_21 (by decide) (fun hc21 h => ?_) (fun hc21 h => ?_)
        · refine lv_aload_n C.1 C.2.1 dX7_lines_24 rfl (lv_at hl 3 rfl) ?_
          refine gf_X7_7 C B k_o dX7_lines_25 ?_
          refine jr_iconst C dX7_lines_28 ?_
          refine lv_iload C.1 C.2.1 dX7_lines_29 (lv_at hl 1 rfl) ?_
          refine jr_iadd C dX7_lines_31 ?_
          obtain ⟨g5, h⟩ := h
          refine jr_iald C B 1115 (jk1 (ko_X7_0 k_o) rfl) (jk2 (ko_X7_0 k_o) rfl) (jW_R _) g5 dX7_lines_32 ?_
          refine jr_iconst C dX7_lines_33 ?_
          refine jr_icmp_ne (tgt := 58) C (o_M (o + 1) (jW (1 + x3))).1 (jkc rfl) h dX7_lines_34 (by decide) (fun hc34 h => ?_) (fun hc34 h => ?_)
          · refine lv_aload_n C.1 C.2.1 dX7_lines_37 rfl (lv_at hl 3 rfl) ?_
            refine lv_iload_n C.1 C.2.1 dX7_lines_38 rfl (lv_at hl 2 rfl) ?_
            refine lv_iload C.1 C.2.1 dX7_lines_39 (lv_at hl 1 rfl) ?_
            refine cl_X7_valuesOf C hl.1 B q_815 ⟨Nat.le_of_ble_eq_true rfl, Nat.le_of_ble_eq_true rfl⟩ ⟨Nat.zero_le _, Nat.zero_le _⟩ (Nat.le_of_ble_eq_true rfl) k_o r_x1 r_x3 h dX7_lines_41 (fun x6 r_x6 _ _ h B => ?_)
            refine lv_iload_n C.1 C.2.1 dX7_lines_44 rfl (lv_at hl 0 rfl) ?_
            refine jr_icmp_le (tgt := 58) C r_x6 r_x2 h dX7_lines_45 (by decide) (fun hc45 h => ?_) (fun hc45 h => ?_)
            · refine lv_iload_n C.1 C.2.1 dX7_lines_58 rfl (lv_at hl 0 rfl) ?_
              refine lv_istore_n (lv' := [(3, .int (jI x2)), (4, .int (jI x3)), (2, .int (jI x1)), (0, .ref (jD G o))]) C.1 C.2.1 dX7_lines_59 rfl hl (by decide) rfl (fun ls hl => ?_)
              refine jr_iinc (k := 1) (lv' := fun x7 => [(4, .int (jI x7)), (3, .int (jI x2)), (2, .int (jI x1)), (0, .ref (jD G o))]) C h hl rfl (by decide) (fun _ => rfl) dX7_lines_60 (fun x7 h r_x7 ls hl => ?_)
              refine lv_goto (tgt := 18) C.1 C.2.1 dX7_lines_63 (by decide) ?_
              exact ih18 _ _ _ _ _ h r_x2 r_x7 B (lv_sub hl [1, 0, 2, 3] rfl)
            · refine lv_aload_n C.1 C.2.1 dX7_lines_48 rfl (lv_at hl 3 rfl) ?_
              refine lv_iload_n C.1 C.2.1 dX7_lines_49 rfl (lv_at hl 2 rfl) ?_
              refine lv_iload C.1 C.2.1 dX7_lines_50 (lv_at hl 1 rfl) ?_
              refine cl_X7_valuesOf C hl.1 B q_815 ⟨Nat.le_of_ble_eq_true rfl, Nat.le_of_ble_eq_true rfl⟩ ⟨Nat.zero_le _, Nat.zero_le _⟩ (Nat.le_of_ble_eq_true rfl) k_o r_x1 r_x3 h dX7_lines_52 (fun x8 r_x8 _ _ h B => ?_)
              refine lv_goto (tgt := 59) C.1 C.2.1 dX7_lines_55 (by decide) ?_
              refine lv_istore_n (lv' := [(3, .int (jI x8)), (4, .int (jI x3)), (2, .int (jI x1)), (0, .ref (jD G o))]) C.1 C.2.1 dX7_lines_59 rfl hl (by decide) rfl (fun ls hl => ?_)
              refine jr_iinc (k := 1) (lv' := fun x9 => [(4, .int (jI x9)), (3, .int (jI x8)), (2, .int (jI x1)), (0, .ref (jD G o))]) C h hl rfl (by decide) (fun _ => rfl) dX7_lines_60 (fun x9 h r_x9 ls hl => ?_)
              refine lv_goto (tgt := 18) C.1 C.2.1 dX7_lines_63 (by decide) ?_
              exact ih18 _ _ _ _ _ h r_x8 r_x9 B (lv_sub hl [1, 0, 2, 3] rfl)
          · refine lv_iload_n C.1 C.2.1 dX7_lines_58 rfl (lv_at hl 0 rfl) ?_
            refine lv_istore_n (lv' := [(3, .int (jI x2)), (4, .int (jI x3)), (2, .int (jI x1)), (0, .ref (jD G o))]) C.1 C.2.1 dX7_lines_59 rfl hl (by decide) rfl (fun ls hl => ?_)
            refine jr_iinc (k := 1) (lv' := fun x10 => [(4, .int (jI x10)), (3, .int (jI x2)), (2, .int (jI x1)), (0, .ref (jD G o))]) C h hl rfl (by decide) (fun _ => rfl) dX7_lines_60 (fun x10 h r_x10 ls hl => ?_)
            refine lv_goto (tgt := 18) C.1 C.2.1 dX7_lines_63 (by decide) ?_
            exact ih18 _ _ _ _ _ h r_x2 r_x10 B (lv_sub hl [1, 0, 2, 3] rfl)
        · exact hkx18 _ _ _ _ h r_x2 B (lv_sub hl [0] rfl)
    exact hL18 N _ _ _ _ _ h (jkc rfl) (jkc rfl) B (lv_sub hl [1, 0, 2, 3] rfl)
theorem cl_X7_lines {p : Program} {l : Launch} {e : Env} {R : Room} {s : State} {m : MethodId} {args : Array Value} {below : List Frame} {meth : Method} {c : Code} {H : Heap} {locs : List Loc} {cells slots : Nat} {Q : State → Prop} {cc : ByteArray} {nL : Nat} {own : String} {G : jG} {H0 : Heap} {pc idx : Nat} {ls : Array Slot} {rest : List Value} {N : Nat} {M : jM} {o a1 : Int} {k : Int → Prop} (C : Cx G p s args m c cc nL own) (hl : ls.size = nL) (B : Hp G M H0 H locs) (q1 : Cond.methodLink own idx yX7_lines ∈ tb) (hR : (rmm 2 45).frames + 1 ≤ R.frames ∧ 8 + (5 + 11) + (rmm 2 45).locals ≤ R.locals) (hcs : cells ≤ R.cells ∧ slots ≤ R.slots) (hW : (rest.map fun v => v.category).sum ≤ 8) (k_o : jK o = 8) (r_a1 : jR a1) (h : w_X7_lines N M o a1 k) (hdg : decode cc pc = .ok (.invokevirtual idx, 3)) (kk : ∀ (r : Int), jR r → ∀ (H1 : Heap) (locs1 : List Loc), k r → Hp G M H0 H1 locs1 → W p l e R s m args below meth c H1 locs1 cells slots Q (F0 m (pc + 3) ls (.int (jI r) :: rest))) : W p l e R s m args below meth c H locs cells slots Q (F0 m pc ls (.int (jI a1) :: .ref (jD G o) :: rest)) :=
  jr_callI B (jr_runV (o := o) (As := [.int (jI a1)]) (n := 1) C hl B (m_X7_lines B.2.2 k_o r_a1 h) (jE8 k_o) (by omega) rfl q1 q_1066 q_1067 q_1068 q_8 ⟨by decide, by decide, by decide +kernel⟩ rfl ⟨rfl, rfl⟩ hR hcs rfl hW hdg) (fun r M' H1 locs1 hr hk B1 => by obtain ⟨rfl, hk⟩ := hk; exact kk r hr H1 locs1 hk B1)
def lp_X7_locate_65 (o : Int) (a2 : Int) (a3 : Int) (x1 : Int) (x7 : Int) (M : jM) (kx65 : Int → Prop) : Nat → Int → Int → Prop
  | 0, _, _ => False
  | n + 1, x11, x12 => (if x12 < 0 then (kx65 x11) else (w_X7_numberOf M o x1 a2 x7 x12 (fun x15 => (if x15 = a3 then (jL (jW ((jW (10 * x7)) + x12)) (fun x16 => (jL (jW (x12 + (-1))) (fun x17 => (lp_X7_locate_65 o a2 a3 x1 x7 M kx65 n x16 x17))))) else (jL (jW (x12 + (-1))) (fun x18 => (lp_X7_locate_65 o a2 a3 x1 x7 M kx65 n x11 x18)))))))
def lp_X7_locate_47 (N : Nat) (o : Int) (a2 : Int) (a3 : Int) (x1 : Int) (M : jM) (kx47 : Int → Prop) : Nat → Int → Int → Prop
  | 0, _, _ => False
  | n + 1, x6, x7 => (if x7 < 0 then (kx47 x6) else (w_X7_subsOf M o x1 a2 x7 (fun x9 => (jL (jW (x9 - 1)) (fun x10 => (lp_X7_locate_65 o a2 a3 x1 x7 M (fun (x13 : Int) => (jL (jW (x7 + (-1))) (fun x14 => (lp_X7_locate_47 N o a2 a3 x1 M kx47 n x13 x14)))) N x6 x10))))))
def w_X7_locate (N : Nat) (M : jM) (o : Int) (a1 : Int) (a2 : Int) (a3 : Int) (k : Int → Prop) : Prop := (w_X7_placeOf N M o a1 (fun x1 => (if x1 < 0 then (k (-1000001)) else (w_X7_isField a2 (fun x2 => (if x2 = 0 then (k (-1000001)) else (w_X7_isNumber a3 (fun x3 => (if x3 = 0 then (k (-1000002)) else (w_X7_valuesOf M o x1 a2 (fun x4 => (jL (jW (x4 - 1)) (fun x5 => (lp_X7_locate_47 N o a2 a3 x1 M (fun (x8 : Int) => (k x8)) N (-1000007) x5))))))))))))))
set_option maxHeartbeats 4000000 in
set_option maxRecDepth 100000 in
theorem m_X7_locate {l : Launch} {G : jG} {N : Nat} {M : jM} {o a1 a2 a3 : Int} {k : Int → Prop} (o_M : jOK M) (k_o : jK o = 8) (r_a1 : jR a1) (r_a2 : jR a2) (r_a3 : jR a3) (h : w_X7_locate N M o a1 a2 a3 k) : Met l yX7_locate (wsG yX7_locate cX7_locate 8 (some .int)) (rmm 2 46) (jPc G M [.ref (jD G o), .int (jI a1), .int (jI a2), .int (jI a3)]) (qI G (fun r M' => M' = M ∧ k r)) 0 0 (gA G) := by
  refine jm_start RX7 rfl (by decide) (Nat.le_of_ble_eq_true rfl) o_M ?_
  intro p e s m args below meth c ls C hr hlocks hl B
  have hl : lv_has ls 8 [(0, .ref (jD G o)), (1, .int (jI a1)), (2, .int (jI a2)), (3, .int (jI a3))] := hl
  unfold w_X7_locate at h
  refine lv_aload_n C.1 C.2.1 dX7_locate_0 rfl (lv_at hl 0 rfl) ?_
  refine lv_iload_n C.1 C.2.1 dX7_locate_1 rfl (lv_at hl 1 rfl) ?_
  refine cl_X7_placeOf C hl.1 B q_749 ⟨Nat.le_of_ble_eq_true rfl, Nat.le_of_ble_eq_true rfl⟩ ⟨Nat.zero_le _, Nat.zero_le _⟩ (Nat.le_of_ble_eq_true rfl) k_o r_a1 h dX7_locate_2 (fun x1 r_x1 _ _ h B => ?_)
  refine lv_istore (lv' := [(4, .int (jI x1)), (0, .ref (jD G o)), (1, .int (jI a1)), (2, .int (jI a2)), (3, .int (jI a3))]) C.1 C.2.1 dX7_locate_5 hl (by decide) rfl (fun ls hl => ?_)
  refine lv_iload C.1 C.2.1 dX7_locate_7 (lv_at hl 0 rfl) ?_
  refine jr_if_lt (tgt := 19) C r_x1 h dX7_locate_9 (by decide) (fun hc9 h => ?_) (fun hc9 h => ?_)
  · refine jr_ldc (n := -1000001) C q_753 (by decide) dX7_locate_19 ?_
    exact jr_iret C B hr hlocks (jkc rfl) ⟨rfl, h⟩ dX7_locate_21
  · refine lv_iload_n C.1 C.2.1 dX7_locate_12 rfl (lv_at hl 3 rfl) ?_
    refine cl_X7_isField C hl.1 B q_812 ⟨Nat.le_of_ble_eq_true rfl, Nat.le_of_ble_eq_true rfl⟩ ⟨Nat.zero_le _, Nat.zero_le _⟩ (Nat.le_of_ble_eq_true rfl) r_a2 h dX7_locate_13 (fun x2 z_x2 _ _ h B => ?_)
    refine jr_if_ne (tgt := 22) C (zR z_x2) h dX7_locate_16 (by decide) (fun hc16 h => ?_) (fun hc16 h => ?_)
    · refine jr_ldc (n := -1000001) C q_753 (by decide) dX7_locate_19 ?_
      exact jr_iret C B hr hlocks (jkc rfl) ⟨rfl, h⟩ dX7_locate_21
    · refine lv_iload_n C.1 C.2.1 dX7_locate_22 rfl (lv_at hl 4 rfl) ?_
      refine cl_X7_isNumber C hl.1 B q_830 ⟨Nat.le_of_ble_eq_true rfl, Nat.le_of_ble_eq_true rfl⟩ ⟨Nat.zero_le _, Nat.zero_le _⟩ (Nat.le_of_ble_eq_true rfl) r_a3 h dX7_locate_23 (fun x3 z_x3 _ _ h B => ?_)
      refine jr_if_ne (tgt := 32) C (zR z_x3) h dX7_locate_26 (by decide) (fun hc26 h => ?_) (fun hc26 h => ?_)
      · refine jr_ldc (n := -1000002) C q_748 (by decide) dX7_locate_29 ?_
        exact jr_iret C B hr hlocks (jkc rfl) ⟨rfl, h⟩ dX7_locate_31
      · refine jr_ldc (n := -1000007) C q_892 (by decide) dX7_locate_32 ?_
        refine lv_istore (lv' := [(5, .int (jI (-1000007))), (4, .int (jI x1)), (0, .ref (jD G o)), (1, .int (jI a1)), (2, .int (jI a2)), (3, .int (jI a3))]) C.1 C.2.1 dX7_locate_34 hl (by decide) rfl (fun ls hl => ?_)
        refine lv_aload_n C.1 C.2.1 dX7_locate_36 rfl (lv_at hl 2 rfl) ?_
        refine lv_iload C.1 C.2.1 dX7_locate_37 (lv_at hl 1 rfl) ?_
        refine lv_iload_n C.1 C.2.1 dX7_locate_39 rfl (lv_at hl 4 rfl) ?_
        refine cl_X7_valuesOf C hl.1 B q_815 ⟨Nat.le_of_ble_eq_true rfl, Nat.le_of_ble_eq_true rfl⟩ ⟨Nat.zero_le _, Nat.zero_le _⟩ (Nat.le_of_ble_eq_true rfl) k_o r_x1 r_a2 h dX7_locate_40 (fun x4 r_x4 _ _ h B => ?_)
        refine jr_iconst C dX7_locate_43 ?_
        refine jr_isub C dX7_locate_44 ?_
        refine jr_nm h (jW_R _) (fun x5 h r_x5 => ?_)
        refine lv_istore (lv' := [(6, .int (jI x5)), (5, .int (jI (-1000007))), (4, .int (jI x1)), (0, .ref (jD G o)), (1, .int (jI a1)), (2, .int (jI a2)), (3, .int (jI a3))]) C.1 C.2.1 dX7_locate_45 hl (by decide) rfl (fun ls hl => ?_)
        obtain ⟨kx47, hkx47, h⟩ : ∃ kx47 : Int → Prop, (∀ (x8 : Int) (H : Heap) (locs : List Loc) (ls : Array Slot), kx47 x8 → jR x8 → Hp G M s.heap H locs → lv_has ls 8 [(5, .int (jI x8))] → W p l e (rmm 2 46) s m args below meth c H locs 0 0 (MQ below (qI G (fun r M' => M' = M ∧ k r)) args s 0 0 (gA G)) (F0 m 112 ls [])) ∧ lp_X7_locate_47 N o a2 a3 x1 M kx47 N (-1000007) x5 := by
          refine ⟨_, ?_, h⟩
          intro x8 H locs ls h r_x8 B hl
          refine lv_iload C.1 C.2.1 dX7_locate_112 (lv_at hl 0 rfl) ?_
          exact jr_iret C B hr hlocks r_x8 ⟨rfl, h⟩ dX7_locate_114
        have hL47 : ∀ (n : Nat) (x6 : Int) (x7 : Int) (H : Heap) (locs : List Loc) (ls : Array Slot), lp_X7_locate_47 N o a2 a3 x1 M kx47 n x6 x7 → jR x6 → jR x7 → Hp G M s.heap H locs → lv_has ls 8 [(5, .int (jI x6)), (6, .int (jI x7)), (4, .int (jI x1)), (0, .ref (jD G o)), (2, .int (jI a2)), (3, .int (jI a3))] → W p l e (rmm 2 46) s m args below meth c H locs 0 0 (MQ below (qI G (fun r M' => M' = M ∧ k r)) args s 0 0 (gA G)) (F0 m 47 ls []) := by
          intro n
          induction n with
          | zero => intro x6 x7 H locs ls h; exact (show False from h).elim
          | succ n ih47 =>
            intro x6 x7 H locs ls h r_x6 r_x7 B hl
            rw [lp_X7_locate_47] at h
            refine lv_iload C.1 C.2.1 dX7_locate_47 (lv_at hl 1 rfl) ?_
            refine jr_if_lt (tgt := 112) C r_x7 h dX7_locate_49 (by decide) (fun hc49 h => ?_) (fun hc49 h => ?_)
            · exact hkx47 _ _ _ _ h r_x6 B (lv_sub hl [0] rfl)
            · refine lv_aload_n C.1 C.2.1 dX7_locate_52 rfl (lv_at hl 3 rfl) ?_
              refine lv_iload C.1 C.2.1 dX7_locate_53 (lv_at hl 2 rfl) ?_
              refine lv_iload_n C.1 C.2.1 dX7_locate_55 rfl (lv_at hl 4 rfl) ?_
              refine lv_iload C.1 C.2.1 dX7_locate_56 (lv_at hl 1 rfl) ?_
              refine cl_X7_subsOf C hl.1 B q_823 ⟨Nat.le_of_ble_eq_true rfl, Nat.le_of_ble_eq_true rfl⟩ ⟨Nat.zero_le _, Nat.zero_le _⟩ (Nat.le_of_ble_eq_true rfl) k_o r_x1 r_a2 r_x7 h dX7_locate_58 (fun x9 r_x9 _ _ h B => ?_)
              refine jr_iconst C dX7_locate_61 ?_
              refine jr_isub C dX7_locate_62 ?_
              refine jr_nm h (jW_R _) (fun x10 h r_x10 => ?_)
              refine lv_istore (lv' := [(7, .int (jI x10)), (5, .int (jI x6)), (6, .int (jI x7)), (4, .int (jI x1)), (0, .ref (jD G o)), (2, .int (jI a2)), (3, .int (jI a3))]) C.1 C.2.1 dX7_locate_63 hl (by decide) rfl (fun ls hl => ?_)
              obtain ⟨kx65, hkx65, h⟩ : ∃ kx65 : Int → Prop, (∀ (x13 : Int) (H : Heap) (locs : List Loc) (ls : Array Slot), kx65 x13 → jR x13 → Hp G M s.heap H locs → lv_has ls 8 [(5, .int (jI x13)), (6, .int (jI x7)), (4, .int (jI x1)), (0, .ref (jD G o)), (2, .int (jI a2)), (3, .int (jI a3))] → W p l e (rmm 2 46) s m args below meth c H locs 0 0 (MQ below (qI G (fun r M' => M' = M ∧ k r)) args s 0 0 (gA G)) (F0 m 106 ls [])) ∧ lp_X7_locate_65 o a2 a3 x1 x7 M kx65 N x6 x10 := by
                refine ⟨_, ?_, h⟩
                intro x13 H locs ls h r_x13 B hl
                refine jr_iinc (k := 1) (lv' := fun x14 => [(6, .int (jI x14)), (5, .int (jI x13)), (4, .int (jI x1)), (0, .ref (jD G o)), (2, .int (jI a2)), (3, .int (jI a3))]) C h hl rfl (by decide) (fun _ => rfl) dX7_locate_106 (fun x14 h r_x14 ls hl => ?_)
                refine lv_goto (tgt := 47) C.1 C.2.1 dX7_locate_109 (by decide) ?_
                exact ih47 _ _ _ _ _ h r_x13 r_x14 B (lv_sub hl [1, 0, 2, 3, 4, 5] rfl)
              have hL65 : ∀ (n : Nat) (x11 : Int) (x12 : Int) (H : Heap) (locs : List Loc) (ls : Array Slot), lp_X7_locate_65 o a2 a3 x1 x7 M kx65 n x11 x12 → jR x11 → jR x12 → Hp G M s.heap H locs → lv_has ls 8 [(5, .int (jI x11)), (7, .int (jI x12)), (6, .int (jI x7)), (4, .int (jI x1)), (0, .ref (jD G o)), (2, .int (jI a2)), (3, .int (jI a3))] → W p l e (rmm 2 46) s m args below meth c H locs 0 0 (MQ below (qI G (fun r M' => M' = M ∧ k r)) args s 0 0 (gA G)) (F0 m 65 ls []) := by
                intro n
                induction n with
                | zero => intro x11 x12 H locs ls h; exact (show False from h).elim
                | succ n ih65 =>
                  intro x11 x12 H locs ls h r_x11 r_x12 B hl
                  rw [lp_X7_locate_65] at h
                  refine lv_iload C.1 C.2.1 dX7_locate_65 (lv_at hl 1 rfl) ?_
                  refine jr_if_lt (tgt := 106) C r_x12 h dX7_locate_67 (by decide) (fun hc67 h => ?_) (fun hc67 h => ?_)
                  · exact hkx65 _ _ _ _ h r_x11 B (lv_sub hl [0, 2, 3, 4, 5, 6] rfl)
                  · refine lv_aload_n C.1 C.2.1 dX7_locate_70 rfl (lv_at hl 4 rfl) ?_
                    refine lv_iload C.1 C.2.1 dX7_locate_71 (lv_at hl 3 rfl) ?_
                    refine lv_iload_n C.1 C.2.1 dX7_locate_73 rfl (lv_at hl 5 rfl) ?_
                    refine lv_iload C.1 C.2.1 dX7_locate_74 (lv_at hl 2 rfl) ?_
                    refine lv_iload C.1 C.2.1 dX7_locate_76 (lv_at hl 1 rfl) ?_
                    refine cl_X7_numberOf C hl.1 B q_844 ⟨Nat.le_of_ble_eq_true rfl, Nat.le_of_ble_eq_true rfl⟩ ⟨Nat.zero_le _, Nat.zero_le _⟩ (Nat.le_of_ble_eq_true rfl) k_o r_x1 r_a2 r_x7 r_x12 h dX7_locate_78 (fun x15 r_x15 _ _ h B => ?_)
                    refine lv_iload_n C.1 C.2.1 dX7_locate_81 rfl (lv_at hl 6 rfl) ?_
                    refine jr_icmp_ne (tgt := 96) C r_x15 r_a3 h dX7_locate_82 (by decide) (fun hc82 h => ?_) (fun hc82 h => ?_)
                    · refine jr_bipush C dX7_locate_85 (by decide) ?_
                      refine lv_iload C.1 C.2.1 dX7_locate_87 (lv_at hl 2 rfl) ?_
                      refine jr_imul C dX7_locate_89 ?_
                      refine lv_iload C.1 C.2.1 dX7_locate_90 (lv_at hl 1 rfl) ?_
                      refine jr_iadd C dX7_locate_92 ?_
                      refine lv_goto (tgt := 98) C.1 C.2.1 dX7_locate_93 (by decide) ?_
                      refine jr_nm h (jW_R _) (fun x16 h r_x16 => ?_)
                      refine lv_istore (lv' := [(5, .int (jI x16)), (7, .int (jI x12)), (6, .int (jI x7)), (4, .int (jI x1)), (0, .ref (jD G o)), (2, .int (jI a2)), (3, .int (jI a3))]) C.1 C.2.1 dX7_locate_98 hl (by decide) rfl (fun ls hl => ?_)
                      refine jr_iinc (k := 1) (lv' := fun x17 => [(7, .int (jI x17)), (5, .int (jI x16)), (6, .int (jI x7)), (4, .int (jI x1)), (0, .ref (jD G o)), (2, .int (jI a2)), (3, .int (jI a3))]) C h hl rfl (by decide) (fun _ => rfl) dX7_locate_100 (fun x17 h r_x17 ls hl => ?_)
                      refine lv_goto (tgt := 65) C.1 C.2.1 dX7_locate_103 (by decide) ?_
                      exact ih65 _ _ _ _ _ h r_x16 r_x17 B (lv_sub hl [1, 0, 2, 3, 4, 5, 6] rfl)
                    · refine lv_iload C.1 C.2.1 dX7_locate_96 (lv_at hl 0 rfl) ?_
                      refine lv_istore (lv' := [(5, .int (jI x11)), (7, .int (jI x12)), (6, .int (jI x7)), (4, .int (jI x1)), (0, .ref (jD G o)), (2, .int (jI a2)), (3, .int (jI a3))]) C.1 C.2.1 dX7_locate_98 hl (by decide) rfl (fun ls hl => ?_)
                      refine jr_iinc (k := 1) (lv' := fun x18 => [(7, .int (jI x18)), (5, .int (jI x11)), (6, .int (jI x7)), (4, .int (jI x1)), (0, .ref (jD G o)), (2, .int (jI a2)), (3, .int (jI a3))]) C h hl rfl (by decide) (fun _ => rfl) dX7_locate_100 (fun x18 h r_x18 ls hl => ?_)
                      refine lv_goto (tgt := 65) C.1 C.2.1 dX7_locate_103 (by decide) ?_
                      exact ih65 _ _ _ _ _ h r_x11 r_x18 B (lv_sub hl [1, 0, 2, 3, 4, 5, 6] rfl)
              exact hL65 N _ _ _ _ _ h r_x6 r_x10 B (lv_sub hl [1, 0, 2, 3, 4, 5, 6] rfl)
        exact hL47 N _ _ _ _ _ h (jkc rfl) r_x5 B (lv_sub hl [1, 0, 2, 3, 5, 6] rfl)
theorem cl_X7_locate {p : Program} {l : Launch} {e : Env} {R : Room} {s : State} {m : MethodId} {args : Array Value} {below : List Frame} {meth : Method} {c : Code} {H : Heap} {locs : List Loc} {cells slots : Nat} {Q : State → Prop} {cc : ByteArray} {nL : Nat} {own : String} {G : jG} {H0 : Heap} {pc idx : Nat} {ls : Array Slot} {rest : List Value} {N : Nat} {M : jM} {o a1 a2 a3 : Int} {k : Int → Prop} (C : Cx G p s args m c cc nL own) (hl : ls.size = nL) (B : Hp G M H0 H locs) (q1 : Cond.methodLink own idx yX7_locate ∈ tb) (hR : (rmm 2 46).frames + 1 ≤ R.frames ∧ 8 + (8 + 11) + (rmm 2 46).locals ≤ R.locals) (hcs : cells ≤ R.cells ∧ slots ≤ R.slots) (hW : (rest.map fun v => v.category).sum ≤ 8) (k_o : jK o = 8) (r_a1 : jR a1) (r_a2 : jR a2) (r_a3 : jR a3) (h : w_X7_locate N M o a1 a2 a3 k) (hdg : decode cc pc = .ok (.invokevirtual idx, 3)) (kk : ∀ (r : Int), jR r → ∀ (H1 : Heap) (locs1 : List Loc), k r → Hp G M H0 H1 locs1 → W p l e R s m args below meth c H1 locs1 cells slots Q (F0 m (pc + 3) ls (.int (jI r) :: rest))) : W p l e R s m args below meth c H locs cells slots Q (F0 m pc ls (.int (jI a3) :: .int (jI a2) :: .int (jI a1) :: .ref (jD G o) :: rest)) :=
  jr_callI B (jr_runV (o := o) (As := [.int (jI a1), .int (jI a2), .int (jI a3)]) (n := 3) C hl B (m_X7_locate B.2.2 k_o r_a1 r_a2 r_a3 h) (jE8 k_o) (by omega) rfl q1 q_1070 q_1071 q_1072 q_8 ⟨by decide, by decide, by decide +kernel⟩ rfl ⟨rfl, rfl⟩ hR hcs rfl hW hdg) (fun r M' H1 locs1 hr hk B1 => by obtain ⟨rfl, hk⟩ := hk; exact kk r hr H1 locs1 hk B1)
def w_X7_column (M : jM) (o : Int) (a1 : Int) (a2 : Int) (k : Int → Prop) : Prop := (w_X7_isColumn a1 (fun x1 => (if x1 = 0 then (k (-1000001)) else (w_X7_in a2 0 2 (fun x2 => (if x2 = 0 then (k (-1000002)) else (w_X7_ofColumn M o a1 a2 (fun x3 => (k x3)))))))))
set_option maxHeartbeats 4000000 in
set_option maxRecDepth 100000 in
theorem m_X7_column {l : Launch} {G : jG} {M : jM} {o a1 a2 : Int} {k : Int → Prop} (o_M : jOK M) (k_o : jK o = 8) (r_a1 : jR a1) (r_a2 : jR a2) (h : w_X7_column M o a1 a2 k) : Met l yX7_column (wsG yX7_column cX7_column 3 (some .int)) (rmm 2 42) (jPc G M [.ref (jD G o), .int (jI a1), .int (jI a2)]) (qI G (fun r M' => M' = M ∧ k r)) 0 0 (gA G) := by
  refine jm_start RX7 rfl (by decide) (Nat.le_of_ble_eq_true rfl) o_M ?_
  intro p e s m args below meth c ls C hr hlocks hl B
  have hl : lv_has ls 3 [(0, .ref (jD G o)), (1, .int (jI a1)), (2, .int (jI a2))] := hl
  unfold w_X7_column at h
  refine lv_iload_n C.1 C.2.1 dX7_column_0 rfl (lv_at hl 1 rfl) ?_
  refine cl_X7_isColumn C hl.1 B q_962 ⟨Nat.le_of_ble_eq_true rfl, Nat.le_of_ble_eq_true rfl⟩ ⟨Nat.zero_le _, Nat.zero_le _⟩ (Nat.le_of_ble_eq_true rfl) r_a1 h dX7_column_1 (fun x1 z_x1 _ _ h B => ?_)
  refine jr_if_ne (tgt := 12) C (zR z_x1) h dX7_column_4 (by decide) (fun hc4 h => ?_) (fun hc4 h => ?_)
  · refine jr_ldc (n := -1000001) C q_753 (by decide) dX7_column_7 ?_
    refine lv_goto (tgt := 32) C.1 C.2.1 dX7_column_9 (by decide) ?_
    exact jr_iret C B hr hlocks (jkc rfl) ⟨rfl, h⟩ dX7_column_32
  · refine lv_iload_n C.1 C.2.1 dX7_column_12 rfl (lv_at hl 2 rfl) ?_
    refine jr_iconst C dX7_column_13 ?_
    refine jr_iconst C dX7_column_14 ?_
    refine cl_X7_in C hl.1 B q_745 ⟨Nat.le_of_ble_eq_true rfl, Nat.le_of_ble_eq_true rfl⟩ ⟨Nat.zero_le _, Nat.zero_le _⟩ (Nat.le_of_ble_eq_true rfl) r_a2 (jkc rfl) (jkc rfl) h dX7_column_15 (fun x2 z_x2 _ _ h B => ?_)
    refine jr_if_eq (tgt := 30) C (zR z_x2) h dX7_column_18 (by decide) (fun hc18 h => ?_) (fun hc18 h => ?_)
    · refine jr_ldc (n := -1000002) C q_748 (by decide) dX7_column_30 ?_
      exact jr_iret C B hr hlocks (jkc rfl) ⟨rfl, h⟩ dX7_column_32
    · refine lv_aload_n C.1 C.2.1 dX7_column_21 rfl (lv_at hl 0 rfl) ?_
      refine lv_iload_n C.1 C.2.1 dX7_column_22 rfl (lv_at hl 1 rfl) ?_
      refine lv_iload_n C.1 C.2.1 dX7_column_23 rfl (lv_at hl 2 rfl) ?_
      refine cl_X7_ofColumn C hl.1 B q_965 ⟨Nat.le_of_ble_eq_true rfl, Nat.le_of_ble_eq_true rfl⟩ ⟨Nat.zero_le _, Nat.zero_le _⟩ (Nat.le_of_ble_eq_true rfl) k_o r_a1 r_a2 h dX7_column_24 (fun x3 r_x3 _ _ h B => ?_)
      refine lv_goto (tgt := 32) C.1 C.2.1 dX7_column_27 (by decide) ?_
      exact jr_iret C B hr hlocks r_x3 ⟨rfl, h⟩ dX7_column_32
theorem cl_X7_column {p : Program} {l : Launch} {e : Env} {R : Room} {s : State} {m : MethodId} {args : Array Value} {below : List Frame} {meth : Method} {c : Code} {H : Heap} {locs : List Loc} {cells slots : Nat} {Q : State → Prop} {cc : ByteArray} {nL : Nat} {own : String} {G : jG} {H0 : Heap} {pc idx : Nat} {ls : Array Slot} {rest : List Value} {M : jM} {o a1 a2 : Int} {k : Int → Prop} (C : Cx G p s args m c cc nL own) (hl : ls.size = nL) (B : Hp G M H0 H locs) (q1 : Cond.methodLink own idx yX7_column ∈ tb) (hR : (rmm 2 42).frames + 1 ≤ R.frames ∧ 8 + (3 + 11) + (rmm 2 42).locals ≤ R.locals) (hcs : cells ≤ R.cells ∧ slots ≤ R.slots) (hW : (rest.map fun v => v.category).sum ≤ 8) (k_o : jK o = 8) (r_a1 : jR a1) (r_a2 : jR a2) (h : w_X7_column M o a1 a2 k) (hdg : decode cc pc = .ok (.invokevirtual idx, 3)) (kk : ∀ (r : Int), jR r → ∀ (H1 : Heap) (locs1 : List Loc), k r → Hp G M H0 H1 locs1 → W p l e R s m args below meth c H1 locs1 cells slots Q (F0 m (pc + 3) ls (.int (jI r) :: rest))) : W p l e R s m args below meth c H locs cells slots Q (F0 m pc ls (.int (jI a2) :: .int (jI a1) :: .ref (jD G o) :: rest)) :=
  jr_callI B (jr_runV (o := o) (As := [.int (jI a1), .int (jI a2)]) (n := 2) C hl B (m_X7_column B.2.2 k_o r_a1 r_a2 h) (jE8 k_o) (by omega) rfl q1 q_1074 q_1075 q_1076 q_8 ⟨by decide, by decide, by decide +kernel⟩ rfl ⟨rfl, rfl⟩ hR hcs rfl hW hdg) (fun r M' H1 locs1 hr hk B1 => by obtain ⟨rfl, hk⟩ := hk; exact kk r hr H1 locs1 hk B1)
def w_X7_associated (M : jM) (o : Int) (a1 : Int) (k : Int → Prop) : Prop := (w_X7_isField a1 (fun x1 => (if x1 = 0 then (k (-1000001)) else (jB (jW (1 + a1)) 1115 ∧ (k (M (o + 1) (jW (1 + a1))))))))
set_option maxHeartbeats 4000000 in
set_option maxRecDepth 100000 in
theorem m_X7_associated {l : Launch} {G : jG} {M : jM} {o a1 : Int} {k : Int → Prop} (o_M : jOK M) (k_o : jK o = 8) (r_a1 : jR a1) (h : w_X7_associated M o a1 k) : Met l yX7_associated (wsG yX7_associated cX7_associated 2 (some .int)) (rmm 2 42) (jPc G M [.ref (jD G o), .int (jI a1)]) (qI G (fun r M' => M' = M ∧ k r)) 0 0 (gA G) := by
  refine jm_start RX7 rfl (by decide) (Nat.le_of_ble_eq_true rfl) o_M ?_
  intro p e s m args below meth c ls C hr hlocks hl B
  have hl : lv_has ls 2 [(0, .ref (jD G o)), (1, .int (jI a1))] := hl
  unfold w_X7_associated at h
  refine lv_iload_n C.1 C.2.1 dX7_associated_0 rfl (lv_at hl 1 rfl) ?_
  refine cl_X7_isField C hl.1 B q_812 ⟨Nat.le_of_ble_eq_true rfl, Nat.le_of_ble_eq_true rfl⟩ ⟨Nat.zero_le _, Nat.zero_le _⟩ (Nat.le_of_ble_eq_true rfl) r_a1 h dX7_associated_1 (fun x1 z_x1 _ _ h B => ?_)
  refine jr_if_eq (tgt := 18) C (zR z_x1) h dX7_associated_4 (by decide) (fun hc4 h => ?_) (fun hc4 h => ?_)
  · refine jr_ldc (n := -1000001) C q_753 (by decide) dX7_associated_18 ?_
    exact jr_iret C B hr hlocks (jkc rfl) ⟨rfl, h⟩ dX7_associated_20
  · refine lv_aload_n C.1 C.2.1 dX7_associated_7 rfl (lv_at hl 0 rfl) ?_
    refine gf_X7_7 C B k_o dX7_associated_8 ?_
    refine jr_iconst C dX7_associated_11 ?_
    refine lv_iload_n C.1 C.2.1 dX7_associated_12 rfl (lv_at hl 1 rfl) ?_
    refine jr_iadd C dX7_associated_13 ?_
    obtain ⟨g2, h⟩ := h
    refine jr_iald C B 1115 (jk1 (ko_X7_0 k_o) rfl) (jk2 (ko_X7_0 k_o) rfl) (jW_R _) g2 dX7_associated_14 ?_
    refine lv_goto (tgt := 20) C.1 C.2.1 dX7_associated_15 (by decide) ?_
    exact jr_iret C B hr hlocks (o_M (o + 1) (jW (1 + a1))).1 ⟨rfl, h⟩ dX7_associated_20
theorem cl_X7_associated {p : Program} {l : Launch} {e : Env} {R : Room} {s : State} {m : MethodId} {args : Array Value} {below : List Frame} {meth : Method} {c : Code} {H : Heap} {locs : List Loc} {cells slots : Nat} {Q : State → Prop} {cc : ByteArray} {nL : Nat} {own : String} {G : jG} {H0 : Heap} {pc idx : Nat} {ls : Array Slot} {rest : List Value} {M : jM} {o a1 : Int} {k : Int → Prop} (C : Cx G p s args m c cc nL own) (hl : ls.size = nL) (B : Hp G M H0 H locs) (q1 : Cond.methodLink own idx yX7_associated ∈ tb) (hR : (rmm 2 42).frames + 1 ≤ R.frames ∧ 8 + (2 + 11) + (rmm 2 42).locals ≤ R.locals) (hcs : cells ≤ R.cells ∧ slots ≤ R.slots) (hW : (rest.map fun v => v.category).sum ≤ 8) (k_o : jK o = 8) (r_a1 : jR a1) (h : w_X7_associated M o a1 k) (hdg : decode cc pc = .ok (.invokevirtual idx, 3)) (kk : ∀ (r : Int), jR r → ∀ (H1 : Heap) (locs1 : List Loc), k r → Hp G M H0 H1 locs1 → W p l e R s m args below meth c H1 locs1 cells slots Q (F0 m (pc + 3) ls (.int (jI r) :: rest))) : W p l e R s m args below meth c H locs cells slots Q (F0 m pc ls (.int (jI a1) :: .ref (jD G o) :: rest)) :=
  jr_callI B (jr_runV (o := o) (As := [.int (jI a1)]) (n := 1) C hl B (m_X7_associated B.2.2 k_o r_a1 h) (jE8 k_o) (by omega) rfl q1 q_1078 q_1079 q_1080 q_8 ⟨by decide, by decide, by decide +kernel⟩ rfl ⟨rfl, rfl⟩ hR hcs rfl hW hdg) (fun r M' H1 locs1 hr hk B1 => by obtain ⟨rfl, hk⟩ := hk; exact kk r hr H1 locs1 hk B1)
def w_X7_listSize (N : Nat) (M : jM) (o : Int) (a1 : Int) (k : Int → Prop) : Prop := (w_X7_isList a1 (fun x1 => (if x1 = 0 then (k (-1000001)) else (w_X7_sizeOf N M o a1 (fun x2 => (k x2))))))
set_option maxHeartbeats 4000000 in
set_option maxRecDepth 100000 in
theorem m_X7_listSize {l : Launch} {G : jG} {N : Nat} {M : jM} {o a1 : Int} {k : Int → Prop} (o_M : jOK M) (k_o : jK o = 8) (r_a1 : jR a1) (h : w_X7_listSize N M o a1 k) : Met l yX7_listSize (wsG yX7_listSize cX7_listSize 2 (some .int)) (rmm 2 45) (jPc G M [.ref (jD G o), .int (jI a1)]) (qI G (fun r M' => M' = M ∧ k r)) 0 0 (gA G) := by
  refine jm_start RX7 rfl (by decide) (Nat.le_of_ble_eq_true rfl) o_M ?_
  intro p e s m args below meth c ls C hr hlocks hl B
  have hl : lv_has ls 2 [(0, .ref (jD G o)), (1, .int (jI a1))] := hl
  unfold w_X7_listSize at h
  refine lv_iload_n C.1 C.2.1 dX7_listSize_0 rfl (lv_at hl 1 rfl) ?_
  refine cl_X7_isList C hl.1 B q_977 ⟨Nat.le_of_ble_eq_true rfl, Nat.le_of_ble_eq_true rfl⟩ ⟨Nat.zero_le _, Nat.zero_le _⟩ (Nat.le_of_ble_eq_true rfl) r_a1 h dX7_listSize_1 (fun x1 z_x1 _ _ h B => ?_)
  refine jr_if_eq (tgt := 15) C (zR z_x1) h dX7_listSize_4 (by decide) (fun hc4 h => ?_) (fun hc4 h => ?_)
  · refine jr_ldc (n := -1000001) C q_753 (by decide) dX7_listSize_15 ?_
    exact jr_iret C B hr hlocks (jkc rfl) ⟨rfl, h⟩ dX7_listSize_17
  · refine lv_aload_n C.1 C.2.1 dX7_listSize_7 rfl (lv_at hl 0 rfl) ?_
    refine lv_iload_n C.1 C.2.1 dX7_listSize_8 rfl (lv_at hl 1 rfl) ?_
    refine cl_X7_sizeOf C hl.1 B q_1017 ⟨Nat.le_of_ble_eq_true rfl, Nat.le_of_ble_eq_true rfl⟩ ⟨Nat.zero_le _, Nat.zero_le _⟩ (Nat.le_of_ble_eq_true rfl) k_o r_a1 h dX7_listSize_9 (fun x2 r_x2 _ _ h B => ?_)
    refine lv_goto (tgt := 17) C.1 C.2.1 dX7_listSize_12 (by decide) ?_
    exact jr_iret C B hr hlocks r_x2 ⟨rfl, h⟩ dX7_listSize_17
theorem cl_X7_listSize {p : Program} {l : Launch} {e : Env} {R : Room} {s : State} {m : MethodId} {args : Array Value} {below : List Frame} {meth : Method} {c : Code} {H : Heap} {locs : List Loc} {cells slots : Nat} {Q : State → Prop} {cc : ByteArray} {nL : Nat} {own : String} {G : jG} {H0 : Heap} {pc idx : Nat} {ls : Array Slot} {rest : List Value} {N : Nat} {M : jM} {o a1 : Int} {k : Int → Prop} (C : Cx G p s args m c cc nL own) (hl : ls.size = nL) (B : Hp G M H0 H locs) (q1 : Cond.methodLink own idx yX7_listSize ∈ tb) (hR : (rmm 2 45).frames + 1 ≤ R.frames ∧ 8 + (2 + 11) + (rmm 2 45).locals ≤ R.locals) (hcs : cells ≤ R.cells ∧ slots ≤ R.slots) (hW : (rest.map fun v => v.category).sum ≤ 8) (k_o : jK o = 8) (r_a1 : jR a1) (h : w_X7_listSize N M o a1 k) (hdg : decode cc pc = .ok (.invokevirtual idx, 3)) (kk : ∀ (r : Int), jR r → ∀ (H1 : Heap) (locs1 : List Loc), k r → Hp G M H0 H1 locs1 → W p l e R s m args below meth c H1 locs1 cells slots Q (F0 m (pc + 3) ls (.int (jI r) :: rest))) : W p l e R s m args below meth c H locs cells slots Q (F0 m pc ls (.int (jI a1) :: .ref (jD G o) :: rest)) :=
  jr_callI B (jr_runV (o := o) (As := [.int (jI a1)]) (n := 1) C hl B (m_X7_listSize B.2.2 k_o r_a1 h) (jE8 k_o) (by omega) rfl q1 q_1082 q_1083 q_1084 q_8 ⟨by decide, by decide, by decide +kernel⟩ rfl ⟨rfl, rfl⟩ hR hcs rfl hW hdg) (fun r M' H1 locs1 hr hk B1 => by obtain ⟨rfl, hk⟩ := hk; exact kk r hr H1 locs1 hk B1)
def lp_X7_listAt_26 (o : Int) (a1 : Int) (a2 : Int) (M : jM) (kx26 : Int → Prop) : Nat → Int → Int → Int → Prop
  | 0, _, _, _ => False
  | n + 1, x2, x3, x4 => (if x4 < 100 then (w_X7_isIn M o a1 x4 (fun x6 => (jL (fun (x7 : Int) => (w_X7_isIn M o a1 x4 (fun x9 => (if x9 = 0 then (jL (jW (x3 + 0)) (fun x10 => (jL (jW (x4 + 1)) (fun x11 => (lp_X7_listAt_26 o a1 a2 M kx26 n x7 x10 x11))))) else (jL (jW (x3 + 1)) (fun x12 => (jL (jW (x4 + 1)) (fun x13 => (lp_X7_listAt_26 o a1 a2 M kx26 n x7 x12 x13))))))))) (fun j40_8 => (if x6 = 0 then (j40_8 x2) else (if x3 = a2 then (j40_8 x4) else (j40_8 x2))))))) else (kx26 x2))
def w_X7_listAt (N : Nat) (M : jM) (o : Int) (a1 : Int) (a2 : Int) (k : Int → Prop) : Prop := (w_X7_isList a1 (fun x1 => (if x1 = 0 then (k (-1000001)) else (if a2 < 0 then (k (-1000002)) else (lp_X7_listAt_26 o a1 a2 M (fun (x5 : Int) => (k x5)) N (-1000007) 0 0)))))
set_option maxHeartbeats 4000000 in
set_option maxRecDepth 100000 in
theorem m_X7_listAt {l : Launch} {G : jG} {N : Nat} {M : jM} {o a1 a2 : Int} {k : Int → Prop} (o_M : jOK M) (k_o : jK o = 8) (r_a1 : jR a1) (r_a2 : jR a2) (h : w_X7_listAt N M o a1 a2 k) : Met l yX7_listAt (wsG yX7_listAt cX7_listAt 6 (some .int)) (rmm 2 42) (jPc G M [.ref (jD G o), .int (jI a1), .int (jI a2)]) (qI G (fun r M' => M' = M ∧ k r)) 0 0 (gA G) := by
  refine jm_start RX7 rfl (by decide) (Nat.le_of_ble_eq_true rfl) o_M ?_
  intro p e s m args below meth c ls C hr hlocks hl B
  have hl : lv_has ls 6 [(0, .ref (jD G o)), (1, .int (jI a1)), (2, .int (jI a2))] := hl
  unfold w_X7_listAt at h
  refine lv_iload_n C.1 C.2.1 dX7_listAt_0 rfl (lv_at hl 1 rfl) ?_
  refine cl_X7_isList C hl.1 B q_977 ⟨Nat.le_of_ble_eq_true rfl, Nat.le_of_ble_eq_true rfl⟩ ⟨Nat.zero_le _, Nat.zero_le _⟩ (Nat.le_of_ble_eq_true rfl) r_a1 h dX7_listAt_1 (fun x1 z_x1 _ _ h B => ?_)
  refine jr_if_ne (tgt := 10) C (zR z_x1) h dX7_listAt_4 (by decide) (fun hc4 h => ?_) (fun hc4 h => ?_)
  · refine jr_ldc (n := -1000001) C q_753 (by decide) dX7_listAt_7 ?_
    exact jr_iret C B hr hlocks (jkc rfl) ⟨rfl, h⟩ dX7_listAt_9
  · refine lv_iload_n C.1 C.2.1 dX7_listAt_10 rfl (lv_at hl 2 rfl) ?_
    refine jr_if_ge (tgt := 17) C r_a2 h dX7_listAt_11 (by decide) (fun hc11 h => ?_) (fun hc11 h => ?_)
    · refine jr_ldc (n := -1000002) C q_748 (by decide) dX7_listAt_14 ?_
      exact jr_iret C B hr hlocks (jkc rfl) ⟨rfl, h⟩ dX7_listAt_16
    · refine jr_ldc (n := -1000007) C q_892 (by decide) dX7_listAt_17 ?_
      refine lv_istore_n (lv' := [(3, .int (jI (-1000007))), (0, .ref (jD G o)), (1, .int (jI a1)), (2, .int (jI a2))]) C.1 C.2.1 dX7_listAt_19 rfl hl (by decide) rfl (fun ls hl => ?_)
      refine jr_iconst C dX7_listAt_20 ?_
      refine lv_istore (lv' := [(4, .int (jI 0)), (3, .int (jI (-1000007))), (0, .ref (jD G o)), (1, .int (jI a1)), (2, .int (jI a2))]) C.1 C.2.1 dX7_listAt_21 hl (by decide) rfl (fun ls hl => ?_)
      refine jr_iconst C dX7_listAt_23 ?_
      refine lv_istore (lv' := [(5, .int (jI 0)), (4, .int (jI 0)), (3, .int (jI (-1000007))), (0, .ref (jD G o)), (1, .int (jI a1)), (2, .int (jI a2))]) C.1 C.2.1 dX7_listAt_24 hl (by decide) rfl (fun ls hl => ?_)
      obtain ⟨kx26, hkx26, h⟩ : ∃ kx26 : Int → Prop, (∀ (x5 : Int) (H : Heap) (locs : List Loc) (ls : Array Slot), kx26 x5 → jR x5 → Hp G M s.heap H locs → lv_has ls 6 [(3, .int (jI x5))] → W p l e (rmm 2 42) s m args below meth c H locs 0 0 (MQ below (qI G (fun r M' => M' = M ∧ k r)) args s 0 0 (gA G)) (F0 m 82 ls [])) ∧ lp_X7_listAt_26 o a1 a2 M kx26 N (-1000007) 0 0 := by
        refine ⟨_, ?_, h⟩
        intro x5 H locs ls h r_x5 B hl
        refine lv_iload_n C.1 C.2.1 dX7_listAt_82 rfl (lv_at hl 0 rfl) ?_
        exact jr_iret C B hr hlocks r_x5 ⟨rfl, h⟩ dX7_listAt_83
      have hL26 : ∀ (n : Nat) (x2 : Int) (x3 : Int) (x4 : Int) (H : Heap) (locs : List Loc) (ls : Array Slot), lp_X7_listAt_26 o a1 a2 M kx26 n x2 x3 x4 → jR x2 → jR x3 → jR x4 → Hp G M s.heap H locs → lv_has ls 6 [(3, .int (jI x2)), (4, .int (jI x3)), (5, .int (jI x4)), (0, .ref (jD G o)), (1, .int (jI a1)), (2, .int (jI a2))] → W p l e (rmm 2 42) s m args below meth c H locs 0 0 (MQ below (qI G (fun r M' => M' = M ∧ k r)) args s 0 0 (gA G)) (F0 m 26 ls []) := by
        intro n
        induction n with
        | zero => intro x2 x3 x4 H locs ls h; exact (show False from h).elim
        | succ n ih26 =>
          intro x2 x3 x4 H locs ls h r_x2 r_x3 r_x4 B hl
          rw [lp_X7_listAt_26] at h
          refine lv_iload C.1 C.2.1 dX7_listAt_26 (lv_at hl 2 rfl) ?_
          refine jr_bipush C dX7_listAt_28 (by decide) ?_
          refine jr_icmp_ge (tgt := 82) C r_x4 (jkc rfl) h dX7_listAt_30 (by decide) (fun hc30 h => ?_) (fun hc30 h => ?_)
          · refine lv_aload_n C.1 C.2.1 dX7_listAt_33 rfl (lv_at hl 3 rfl) ?_
            refine lv_iload_n C.1 C.2.1 dX7_listAt_34 rfl (lv_at hl 4 rfl) ?_
            refine lv_iload C.1 C.2.1 dX7_listAt_35 (lv_at hl 2 rfl) ?_
            refine cl_X7_isIn C hl.1 B q_1021 ⟨Nat.le_of_ble_eq_true rfl, Nat.le_of_ble_eq_true rfl⟩ ⟨Nat.zero_le _, Nat.zero_le _⟩ (Nat.le_of_ble_eq_true rfl) k_o r_a1 r_x4 h dX7_listAt_37 (fun x6 z_x6 _ _ h B => ?_)
            obtain ⟨j40_8, hj40_8, h⟩ := jx_join (P := fun j40_8 : Int → Prop => ∀ (x7 : Int) (H : Heap) (locs : List Loc) (ls : Array Slot), j40_8 x7 → jR x7 → Hp G M s.heap H locs → lv_has ls 6 [(4, .int (jI x3)), (5, .int (jI x4)), (0, .ref (jD G o)), (1, .int (jI a1)), (2, .int (jI a2))] → W p l e (rmm 2 42) s m args below meth c H locs 0 0 (MQ below (qI G (fun r M' => M' = M ∧ k r)) args s 0 0 (gA G)) (F0 m 55 ls [.int (jI x7)])) h (by
              intro x7 H locs ls h r_x7 B hl
              refine lv_istore_n (lv' := [(3, .int (jI x7)), (4, .int (jI x3)), (5, .int (jI x4)), (0, .ref (jD G o)), (1, .int (jI a1)), (2, .int (jI a2))]) C.1 C.2.1 dX7_listAt_55 rfl hl (by decide) rfl (fun ls hl => ?_)
              refine lv_iload C.1 C.2.1 dX7_listAt_56 (lv_at hl 1 rfl) ?_
              refine lv_aload_n C.1 C.2.1 dX7_listAt_58 rfl (lv_at hl 3 rfl) ?_
              refine lv_iload_n C.1 C.2.1 dX7_listAt_59 rfl (lv_at hl 4 rfl) ?_
              refine lv_iload C.1 C.2.1 dX7_listAt_60 (lv_at hl 2 rfl) ?_
              refine cl_X7_isIn C hl.1 B q_1021 ⟨Nat.le_of_ble_eq_true rfl, Nat.le_of_ble_eq_true rfl⟩ ⟨Nat.zero_le _, Nat.zero_le _⟩ (Nat.le_of_ble_eq_true rfl) k_o r_a1 r_x4 h dX7_listAt_62 (fun x9 z_x9 _ _ h B => ?_)
              refine jr_if_eq (tgt := 72) C (zR z_x9) h dX7_listAt_65 (by decide) (fun hc65 h => ?_) (fun hc65 h => ?_)
              · refine jr_iconst C dX7_listAt_72 ?_
                refine jr_iadd C dX7_listAt_73 ?_
                refine jr_nm h (jW_R _) (fun x10 h r_x10 => ?_)
                refine lv_istore (lv' := [(4, .int (jI x10)), (3, .int (jI x7)), (5, .int (jI x4)), (0, .ref (jD G o)), (1, .int (jI a1)), (2, .int (jI a2))]) C.1 C.2.1 dX7_listAt_74 hl (by decide) rfl (fun ls hl => ?_)
                refine jr_iinc (k := 2) (lv' := fun x11 => [(5, .int (jI x11)), (4, .int (jI x10)), (3, .int (jI x7)), (0, .ref (jD G o)), (1, .int (jI a1)), (2, .int (jI a2))]) C h hl rfl (by decide) (fun _ => rfl) dX7_listAt_76 (fun x11 h r_x11 ls hl => ?_)
                refine lv_goto (tgt := 26) C.1 C.2.1 dX7_listAt_79 (by decide) ?_
                exact ih26 _ _ _ _ _ _ h r_x7 r_x10 r_x11 B (lv_sub hl [2, 1, 0, 3, 4, 5] rfl)
              · refine jr_iconst C dX7_listAt_68 ?_
                refine lv_goto (tgt := 73) C.1 C.2.1 dX7_listAt_69 (by decide) ?_
                refine jr_iadd C dX7_listAt_73 ?_
                refine jr_nm h (jW_R _) (fun x12 h r_x12 => ?_)
                refine lv_istore (lv' := [(4, .int (jI x12)), (3, .int (jI x7)), (5, .int (jI x4)), (0, .ref (jD G o)), (1, .int (jI a1)), (2, .int (jI a2))]) C.1 C.2.1 dX7_listAt_74 hl (by decide) rfl (fun ls hl => ?_)
                refine jr_iinc (k := 2) (lv' := fun x13 => [(5, .int (jI x13)), (4, .int (jI x12)), (3, .int (jI x7)), (0, .ref (jD G o)), (1, .int (jI a1)), (2, .int (jI a2))]) C h hl rfl (by decide) (fun _ => rfl) dX7_listAt_76 (fun x13 h r_x13 ls hl => ?_)
                refine lv_goto (tgt := 26) C.1 C.2.1 dX7_listAt_79 (by decide) ?_
                exact ih26 _ _ _ _ _ _ h r_x7 r_x12 r_x13 B (lv_sub hl [2, 1, 0, 3, 4, 5] rfl))
            refine jr_if_eq (tgt := 54) C (zR z_x6) h dX7_listAt_40 (by decide) (fun hc40 h => ?_) (fun hc40 h => ?_)
            · refine lv_iload_n C.1 C.2.1 dX7_listAt_54 rfl (lv_at hl 0 rfl) ?_
              exact hj40_8 _ _ _ _ h r_x2 B (lv_sub hl [1, 2, 3, 4, 5] rfl)
            · refine lv_iload C.1 C.2.1 dX7_listAt_43 (lv_at hl 1 rfl) ?_
              refine lv_iload_n C.1 C.2.1 dX7_listAt_45 rfl (lv_at hl 5 rfl) ?_
              refine jr_icmp_ne (tgt := 54) C r_x3 r_a2 h dX7_listAt_46 (by decide) (fun hc46 h => ?_) (fun hc46 h => ?_)
              · refine lv_iload C.1 C.2.1 dX7_listAt_49 (lv_at hl 2 rfl) ?_
                refine lv_goto (tgt := 55) C.1 C.2.1 dX7_listAt_51 (by decide) ?_
                exact hj40_8 _ _ _ _ h r_x4 B (lv_sub hl [1, 2, 3, 4, 5] rfl)
              · refine lv_iload_n C.1 C.2.1 dX7_listAt_54 rfl (lv_at hl 0 rfl) ?_
                exact hj40_8 _ _ _ _ h r_x2 B (lv_sub hl [1, 2, 3, 4, 5] rfl)
          · exact hkx26 _ _ _ _ h r_x2 B (lv_sub hl [0] rfl)
      exact hL26 N _ _ _ _ _ _ h (jkc rfl) (jkc rfl) (jkc rfl) B (lv_sub hl [2, 1, 0, 3, 4, 5] rfl)
theorem cl_X7_listAt {p : Program} {l : Launch} {e : Env} {R : Room} {s : State} {m : MethodId} {args : Array Value} {below : List Frame} {meth : Method} {c : Code} {H : Heap} {locs : List Loc} {cells slots : Nat} {Q : State → Prop} {cc : ByteArray} {nL : Nat} {own : String} {G : jG} {H0 : Heap} {pc idx : Nat} {ls : Array Slot} {rest : List Value} {N : Nat} {M : jM} {o a1 a2 : Int} {k : Int → Prop} (C : Cx G p s args m c cc nL own) (hl : ls.size = nL) (B : Hp G M H0 H locs) (q1 : Cond.methodLink own idx yX7_listAt ∈ tb) (hR : (rmm 2 42).frames + 1 ≤ R.frames ∧ 8 + (6 + 11) + (rmm 2 42).locals ≤ R.locals) (hcs : cells ≤ R.cells ∧ slots ≤ R.slots) (hW : (rest.map fun v => v.category).sum ≤ 8) (k_o : jK o = 8) (r_a1 : jR a1) (r_a2 : jR a2) (h : w_X7_listAt N M o a1 a2 k) (hdg : decode cc pc = .ok (.invokevirtual idx, 3)) (kk : ∀ (r : Int), jR r → ∀ (H1 : Heap) (locs1 : List Loc), k r → Hp G M H0 H1 locs1 → W p l e R s m args below meth c H1 locs1 cells slots Q (F0 m (pc + 3) ls (.int (jI r) :: rest))) : W p l e R s m args below meth c H locs cells slots Q (F0 m pc ls (.int (jI a2) :: .int (jI a1) :: .ref (jD G o) :: rest)) :=
  jr_callI B (jr_runV (o := o) (As := [.int (jI a1), .int (jI a2)]) (n := 2) C hl B (m_X7_listAt B.2.2 k_o r_a1 r_a2 h) (jE8 k_o) (by omega) rfl q1 q_1086 q_1087 q_1088 q_8 ⟨by decide, by decide, by decide +kernel⟩ rfl ⟨rfl, rfl⟩ hR hcs rfl hW hdg) (fun r M' H1 locs1 hr hk B1 => by obtain ⟨rfl, hk⟩ := hk; exact kk r hr H1 locs1 hk B1)
def w_X7_numbers (N : Nat) (M : jM) (o : Int) (a1 : Int) (a2 : Int) (k : Int → jM → Prop) : Prop := (w_X7_placeOf N M o a1 (fun x1 => (if x1 < 0 then (k (-1000001) M) else (w_X7_isColumn a2 (fun x2 => (if x2 = 0 then (k (-1000001) M) else (w_X7_tells N M o x1 a2 (fun x3 M4 => (k x3 M4)))))))))
set_option maxHeartbeats 4000000 in
set_option maxRecDepth 100000 in
theorem m_X7_numbers {l : Launch} {G : jG} {N : Nat} {M : jM} {o a1 a2 : Int} {k : Int → jM → Prop} (o_M : jOK M) (k_o : jK o = 8) (r_a1 : jR a1) (r_a2 : jR a2) (h : w_X7_numbers N M o a1 a2 k) : Met l yX7_numbers (wsG yX7_numbers cX7_numbers 4 (some .int)) (rmm 5 114) (jPc G M [.ref (jD G o), .int (jI a1), .int (jI a2)]) (qI G k) 0 0 (gA G) := by
  refine jm_start RX7 rfl (by decide) (Nat.le_of_ble_eq_true rfl) o_M ?_
  intro p e s m args below meth c ls C hr hlocks hl B
  have hl : lv_has ls 4 [(0, .ref (jD G o)), (1, .int (jI a1)), (2, .int (jI a2))] := hl
  unfold w_X7_numbers at h
  refine lv_aload_n C.1 C.2.1 dX7_numbers_0 rfl (lv_at hl 0 rfl) ?_
  refine lv_iload_n C.1 C.2.1 dX7_numbers_1 rfl (lv_at hl 1 rfl) ?_
  refine cl_X7_placeOf C hl.1 B q_749 ⟨Nat.le_of_ble_eq_true rfl, Nat.le_of_ble_eq_true rfl⟩ ⟨Nat.zero_le _, Nat.zero_le _⟩ (Nat.le_of_ble_eq_true rfl) k_o r_a1 h dX7_numbers_2 (fun x1 r_x1 _ _ h B => ?_)
  refine lv_istore_n (lv' := [(3, .int (jI x1)), (0, .ref (jD G o)), (1, .int (jI a1)), (2, .int (jI a2))]) C.1 C.2.1 dX7_numbers_5 rfl hl (by decide) rfl (fun ls hl => ?_)
  refine lv_iload_n C.1 C.2.1 dX7_numbers_6 rfl (lv_at hl 0 rfl) ?_
  refine jr_if_lt (tgt := 17) C r_x1 h dX7_numbers_7 (by decide) (fun hc7 h => ?_) (fun hc7 h => ?_)
  · refine jr_ldc (n := -1000001) C q_753 (by decide) dX7_numbers_17 ?_
    refine lv_goto (tgt := 28) C.1 C.2.1 dX7_numbers_19 (by decide) ?_
    exact jr_iret C B hr hlocks (jkc rfl) h dX7_numbers_28
  · refine lv_iload_n C.1 C.2.1 dX7_numbers_10 rfl (lv_at hl 3 rfl) ?_
    refine cl_X7_isColumn C hl.1 B q_962 ⟨Nat.le_of_ble_eq_true rfl, Nat.le_of_ble_eq_true rfl⟩ ⟨Nat.zero_le _, Nat.zero_le _⟩ (Nat.le_of_ble_eq_true rfl) r_a2 h dX7_numbers_11 (fun x2 z_x2 _ _ h B => ?_)
    refine jr_if_ne (tgt := 22) C (zR z_x2) h dX7_numbers_14 (by decide) (fun hc14 h => ?_) (fun hc14 h => ?_)
    · refine jr_ldc (n := -1000001) C q_753 (by decide) dX7_numbers_17 ?_
      refine lv_goto (tgt := 28) C.1 C.2.1 dX7_numbers_19 (by decide) ?_
      exact jr_iret C B hr hlocks (jkc rfl) h dX7_numbers_28
    · refine lv_aload_n C.1 C.2.1 dX7_numbers_22 rfl (lv_at hl 1 rfl) ?_
      refine lv_iload_n C.1 C.2.1 dX7_numbers_23 rfl (lv_at hl 0 rfl) ?_
      refine lv_iload_n C.1 C.2.1 dX7_numbers_24 rfl (lv_at hl 3 rfl) ?_
      refine cl_X7_tells C hl.1 B q_986 ⟨Nat.le_of_ble_eq_true rfl, Nat.le_of_ble_eq_true rfl⟩ ⟨Nat.zero_le _, Nat.zero_le _⟩ (Nat.le_of_ble_eq_true rfl) k_o r_x1 r_a2 h dX7_numbers_25 (fun x3 M4 r_x3 _ _ h B => ?_)
      have o_M4 := B.2.2
      exact jr_iret C B hr hlocks r_x3 h dX7_numbers_28
theorem cl_X7_numbers {p : Program} {l : Launch} {e : Env} {R : Room} {s : State} {m : MethodId} {args : Array Value} {below : List Frame} {meth : Method} {c : Code} {H : Heap} {locs : List Loc} {cells slots : Nat} {Q : State → Prop} {cc : ByteArray} {nL : Nat} {own : String} {G : jG} {H0 : Heap} {pc idx : Nat} {ls : Array Slot} {rest : List Value} {N : Nat} {M : jM} {o a1 a2 : Int} {k : Int → jM → Prop} (C : Cx G p s args m c cc nL own) (hl : ls.size = nL) (B : Hp G M H0 H locs) (q1 : Cond.methodLink own idx yX7_numbers ∈ tb) (hR : (rmm 5 114).frames + 1 ≤ R.frames ∧ 8 + (4 + 11) + (rmm 5 114).locals ≤ R.locals) (hcs : cells ≤ R.cells ∧ slots ≤ R.slots) (hW : (rest.map fun v => v.category).sum ≤ 8) (k_o : jK o = 8) (r_a1 : jR a1) (r_a2 : jR a2) (h : w_X7_numbers N M o a1 a2 k) (hdg : decode cc pc = .ok (.invokevirtual idx, 3)) (kk : ∀ (r : Int) (M' : jM), jR r → ∀ (H1 : Heap) (locs1 : List Loc), k r M' → Hp G M' H0 H1 locs1 → W p l e R s m args below meth c H1 locs1 cells slots Q (F0 m (pc + 3) ls (.int (jI r) :: rest))) : W p l e R s m args below meth c H locs cells slots Q (F0 m pc ls (.int (jI a2) :: .int (jI a1) :: .ref (jD G o) :: rest)) :=
  jr_callI B (jr_runV (o := o) (As := [.int (jI a1), .int (jI a2)]) (n := 2) C hl B (m_X7_numbers B.2.2 k_o r_a1 r_a2 h) (jE8 k_o) (by omega) rfl q1 q_1090 q_1091 q_1092 q_8 ⟨by decide, by decide, by decide +kernel⟩ rfl ⟨rfl, rfl⟩ hR hcs rfl hW hdg) (fun r M' H1 locs1 hr hk B1 => kk r M' hr H1 locs1 hk B1)
def w_X7_numberAt (N : Nat) (M : jM) (o : Int) (a1 : Int) (a2 : Int) (a3 : Int) (k : Int → jM → Prop) : Prop := (w_X7_placeOf N M o a1 (fun x1 => (if x1 < 0 then (k (-1000001) M) else (w_X7_isColumn a2 (fun x2 => (if x2 = 0 then (k (-1000001) M) else (if a3 < 0 then (k (-1000002) M) else (w_X7_tells N M o x1 a2 (fun x3 M4 => (if a3 < x3 then (jB a3 20 ∧ (k (M4 (o + 6) a3) M4)) else (k (-1000007) M4)))))))))))
set_option maxHeartbeats 4000000 in
set_option maxRecDepth 100000 in
theorem m_X7_numberAt {l : Launch} {G : jG} {N : Nat} {M : jM} {o a1 a2 a3 : Int} {k : Int → jM → Prop} (o_M : jOK M) (k_o : jK o = 8) (r_a1 : jR a1) (r_a2 : jR a2) (r_a3 : jR a3) (h : w_X7_numberAt N M o a1 a2 a3 k) : Met l yX7_numberAt (wsG yX7_numberAt cX7_numberAt 5 (some .int)) (rmm 5 114) (jPc G M [.ref (jD G o), .int (jI a1), .int (jI a2), .int (jI a3)]) (qI G k) 0 0 (gA G) := by
  refine jm_start RX7 rfl (by decide) (Nat.le_of_ble_eq_true rfl) o_M ?_
  intro p e s m args below meth c ls C hr hlocks hl B
  have hl : lv_has ls 5 [(0, .ref (jD G o)), (1, .int (jI a1)), (2, .int (jI a2)), (3, .int (jI a3))] := hl
  unfold w_X7_numberAt at h
  refine lv_aload_n C.1 C.2.1 dX7_numberAt_0 rfl (lv_at hl 0 rfl) ?_
  refine lv_iload_n C.1 C.2.1 dX7_numberAt_1 rfl (lv_at hl 1 rfl) ?_
  refine cl_X7_placeOf C hl.1 B q_749 ⟨Nat.le_of_ble_eq_true rfl, Nat.le_of_ble_eq_true rfl⟩ ⟨Nat.zero_le _, Nat.zero_le _⟩ (Nat.le_of_ble_eq_true rfl) k_o r_a1 h dX7_numberAt_2 (fun x1 r_x1 _ _ h B => ?_)
  refine lv_istore (lv' := [(4, .int (jI x1)), (0, .ref (jD G o)), (1, .int (jI a1)), (2, .int (jI a2)), (3, .int (jI a3))]) C.1 C.2.1 dX7_numberAt_5 hl (by decide) rfl (fun ls hl => ?_)
  refine lv_iload C.1 C.2.1 dX7_numberAt_7 (lv_at hl 0 rfl) ?_
  refine jr_if_lt (tgt := 19) C r_x1 h dX7_numberAt_9 (by decide) (fun hc9 h => ?_) (fun hc9 h => ?_)
  · refine jr_ldc (n := -1000001) C q_753 (by decide) dX7_numberAt_19 ?_
    exact jr_iret C B hr hlocks (jkc rfl) h dX7_numberAt_21
  · refine lv_iload_n C.1 C.2.1 dX7_numberAt_12 rfl (lv_at hl 3 rfl) ?_
    refine cl_X7_isColumn C hl.1 B q_962 ⟨Nat.le_of_ble_eq_true rfl, Nat.le_of_ble_eq_true rfl⟩ ⟨Nat.zero_le _, Nat.zero_le _⟩ (Nat.le_of_ble_eq_true rfl) r_a2 h dX7_numberAt_13 (fun x2 z_x2 _ _ h B => ?_)
    refine jr_if_ne (tgt := 22) C (zR z_x2) h dX7_numberAt_16 (by decide) (fun hc16 h => ?_) (fun hc16 h => ?_)
    · refine jr_ldc (n := -1000001) C q_753 (by decide) dX7_numberAt_19 ?_
      exact jr_iret C B hr hlocks (jkc rfl) h dX7_numberAt_21
    · refine lv_iload_n C.1 C.2.1 dX7_numberAt_22 rfl (lv_at hl 4 rfl) ?_
      refine jr_if_ge (tgt := 29) C r_a3 h dX7_numberAt_23 (by decide) (fun hc23 h => ?_) (fun hc23 h => ?_)
      · refine jr_ldc (n := -1000002) C q_748 (by decide) dX7_numberAt_26 ?_
        exact jr_iret C B hr hlocks (jkc rfl) h dX7_numberAt_28
      · refine lv_iload_n C.1 C.2.1 dX7_numberAt_29 rfl (lv_at hl 4 rfl) ?_
        refine lv_aload_n C.1 C.2.1 dX7_numberAt_30 rfl (lv_at hl 1 rfl) ?_
        refine lv_iload C.1 C.2.1 dX7_numberAt_31 (lv_at hl 0 rfl) ?_
        refine lv_iload_n C.1 C.2.1 dX7_numberAt_33 rfl (lv_at hl 3 rfl) ?_
        refine cl_X7_tells C hl.1 B q_986 ⟨Nat.le_of_ble_eq_true rfl, Nat.le_of_ble_eq_true rfl⟩ ⟨Nat.zero_le _, Nat.zero_le _⟩ (Nat.le_of_ble_eq_true rfl) k_o r_x1 r_a2 h dX7_numberAt_34 (fun x3 M4 r_x3 _ _ h B => ?_)
        have o_M4 := B.2.2
        refine jr_icmp_ge (tgt := 49) C r_a3 r_x3 h dX7_numberAt_37 (by decide) (fun hc37 h => ?_) (fun hc37 h => ?_)
        · refine lv_aload_n C.1 C.2.1 dX7_numberAt_40 rfl (lv_at hl 1 rfl) ?_
          refine gf_X7_25 C B k_o dX7_numberAt_41 ?_
          refine lv_iload_n C.1 C.2.1 dX7_numberAt_44 rfl (lv_at hl 4 rfl) ?_
          obtain ⟨g5, h⟩ := h
          refine jr_iald C B 20 (jk1 (ko_X7_10 k_o) rfl) (jk2 (ko_X7_10 k_o) rfl) r_a3 g5 dX7_numberAt_45 ?_
          refine lv_goto (tgt := 51) C.1 C.2.1 dX7_numberAt_46 (by decide) ?_
          exact jr_iret C B hr hlocks (o_M4 (o + 6) a3).1 h dX7_numberAt_51
        · refine jr_ldc (n := -1000007) C q_892 (by decide) dX7_numberAt_49 ?_
          exact jr_iret C B hr hlocks (jkc rfl) h dX7_numberAt_51
theorem cl_X7_numberAt {p : Program} {l : Launch} {e : Env} {R : Room} {s : State} {m : MethodId} {args : Array Value} {below : List Frame} {meth : Method} {c : Code} {H : Heap} {locs : List Loc} {cells slots : Nat} {Q : State → Prop} {cc : ByteArray} {nL : Nat} {own : String} {G : jG} {H0 : Heap} {pc idx : Nat} {ls : Array Slot} {rest : List Value} {N : Nat} {M : jM} {o a1 a2 a3 : Int} {k : Int → jM → Prop} (C : Cx G p s args m c cc nL own) (hl : ls.size = nL) (B : Hp G M H0 H locs) (q1 : Cond.methodLink own idx yX7_numberAt ∈ tb) (hR : (rmm 5 114).frames + 1 ≤ R.frames ∧ 8 + (5 + 11) + (rmm 5 114).locals ≤ R.locals) (hcs : cells ≤ R.cells ∧ slots ≤ R.slots) (hW : (rest.map fun v => v.category).sum ≤ 8) (k_o : jK o = 8) (r_a1 : jR a1) (r_a2 : jR a2) (r_a3 : jR a3) (h : w_X7_numberAt N M o a1 a2 a3 k) (hdg : decode cc pc = .ok (.invokevirtual idx, 3)) (kk : ∀ (r : Int) (M' : jM), jR r → ∀ (H1 : Heap) (locs1 : List Loc), k r M' → Hp G M' H0 H1 locs1 → W p l e R s m args below meth c H1 locs1 cells slots Q (F0 m (pc + 3) ls (.int (jI r) :: rest))) : W p l e R s m args below meth c H locs cells slots Q (F0 m pc ls (.int (jI a3) :: .int (jI a2) :: .int (jI a1) :: .ref (jD G o) :: rest)) :=
  jr_callI B (jr_runV (o := o) (As := [.int (jI a1), .int (jI a2), .int (jI a3)]) (n := 3) C hl B (m_X7_numberAt B.2.2 k_o r_a1 r_a2 r_a3 h) (jE8 k_o) (by omega) rfl q1 q_1094 q_1095 q_1096 q_8 ⟨by decide, by decide, by decide +kernel⟩ rfl ⟨rfl, rfl⟩ hR hcs rfl hW hdg) (fun r M' H1 locs1 hr hk B1 => kk r M' hr H1 locs1 hk B1)
def lp_X7_laysEntries_25 (o : Int) (x2 : Int) (x7 : Int) (kx25 : Int → jM → Prop) : Nat → Int → Int → jM → Prop
  | 0, _, _, _ => False
  | n + 1, x9, x10, M11 => (if x10 < x7 then (jB x10 20 ∧ (jB x9 200 ∧ jL (jU M11 (o + 7) x9 (M11 (o + 6) x10)) (fun M16 => (w_X7_of M16 o x2 0 (fun x17 => (jB x9 200 ∧ jL (jU M16 (o + 8) x9 x17) (fun M18 => (jB x9 200 ∧ jL (jU M18 (o + 9) x9 x10) (fun M19 => (jL (jW (x9 + 1)) (fun x20 => (jL (jW (x10 + 1)) (fun x21 => (lp_X7_laysEntries_25 o x2 x7 kx25 n x20 x21 M19)))))))))))))) else (kx25 x9 M11))
def lp_X7_laysEntries_4 (N : Nat) (o : Int) (a1 : Int) (kx4 : Int → jM → Prop) : Nat → Int → Int → jM → Prop
  | 0, _, _, _ => False
  | n + 1, x1, x2, M3 => (jB 0 1115 ∧ (if x2 < (M3 (o + 1) 0) then (w_X7_tells N M3 o x2 a1 (fun x7 M8 => (lp_X7_laysEntries_25 o x2 x7 (fun (x12 : Int) (M13 : jM) => (jL (jW (x2 + 1)) (fun x14 => (lp_X7_laysEntries_4 N o a1 kx4 n x12 x14 M13)))) N x1 0 M8))) else (kx4 x1 M3)))
def w_X7_laysEntries (N : Nat) (M : jM) (o : Int) (a1 : Int) (k : Int → jM → Prop) : Prop := (lp_X7_laysEntries_4 N o a1 (fun (x4 : Int) (M5 : jM) => (k x4 M5)) N 0 0 M)
set_option maxHeartbeats 4000000 in
set_option maxRecDepth 100000 in
theorem m_X7_laysEntries {l : Launch} {G : jG} {N : Nat} {M : jM} {o a1 : Int} {k : Int → jM → Prop} (o_M : jOK M) (k_o : jK o = 8) (r_a1 : jR a1) (h : w_X7_laysEntries N M o a1 k) : Met l yX7_laysEntries (wsG yX7_laysEntries cX7_laysEntries 6 (some .int)) (rmm 5 114) (jPc G M [.ref (jD G o), .int (jI a1)]) (qI G k) 0 0 (gA G) := by
  refine jm_start RX7 rfl (by decide) (Nat.le_of_ble_eq_true rfl) o_M ?_
  intro p e s m args below meth c ls C hr hlocks hl B
  have hl : lv_has ls 6 [(0, .ref (jD G o)), (1, .int (jI a1))] := hl
  unfold w_X7_laysEntries at h
  refine jr_iconst C dX7_laysEntries_0 ?_
  refine lv_istore_n (lv' := [(2, .int (jI 0)), (0, .ref (jD G o)), (1, .int (jI a1))]) C.1 C.2.1 dX7_laysEntries_1 rfl hl (by decide) rfl (fun ls hl => ?_)
  refine jr_iconst C dX7_laysEntries_2 ?_
  refine lv_istore_n (lv' := [(3, .int (jI 0)), (2, .int (jI 0)), (0, .ref (jD G o)), (1, .int (jI a1))]) C.1 C.2.1 dX7_laysEntries_3 rfl hl (by decide) rfl (fun ls hl => ?_)
  obtain ⟨kx4, hkx4, h⟩ : ∃ kx4 : Int → jM → Prop, (∀ (x4 : Int) (M5 : jM) (H : Heap) (locs : List Loc) (ls : Array Slot), kx4 x4 M5 → jR x4 → Hp G M5 s.heap H locs → lv_has ls 6 [(2, .int (jI x4))] → W p l e (rmm 5 114) s m args below meth c H locs 0 0 (MQ below (qI G k) args s 0 0 (gA G)) (F0 m 80 ls [])) ∧ lp_X7_laysEntries_4 N o a1 kx4 N 0 0 M := by
    refine ⟨_, ?_, h⟩
    intro x4 M5 H locs ls h r_x4 B hl
    have o_M5 := B.2.2
    refine lv_iload_n C.1 C.2.1 dX7_laysEntries_80 rfl (lv_at hl 0 rfl) ?_
    exact jr_iret C B hr hlocks r_x4 h dX7_laysEntries_81
  have hL4 : ∀ (n : Nat) (x1 : Int) (x2 : Int) (M3 : jM) (H : Heap) (locs : List Loc) (ls : Array Slot), lp_X7_laysEntries_4 N o a1 kx4 n x1 x2 M3 → jR x1 → jR x2 → Hp G M3 s.heap H locs → lv_has ls 6 [(2, .int (jI x1)), (3, .int (jI x2)), (0, .ref (jD G o)), (1, .int (jI a1))] → W p l e (rmm 5 114) s m args below meth c H locs 0 0 (MQ below (qI G k) args s 0 0 (gA G)) (F0 m 4 ls []) := by
    intro n
    induction n with
    | zero => intro x1 x2 M3 H locs ls h; exact (show False from h).elim
    | succ n ih4 =>
      intro x1 x2 M3 H locs ls h r_x1 r_x2 B hl
      have o_M3 := B.2.2
      rw [lp_X7_laysEntries_4] at h
      refine lv_iload_n C.1 C.2.1 dX7_laysEntries_4 rfl (lv_at hl 1 rfl) ?_
      refine lv_aload_n C.1 C.2.1 dX7_laysEntries_5 rfl (lv_at hl 2 rfl) ?_
      refine gf_X7_7 C B k_o dX7_laysEntries_6 ?_
      refine jr_iconst C dX7_laysEntries_9 ?_
      obtain ⟨g6, h⟩ := h
      refine jr_iald C B 1115 (jk1 (ko_X7_0 k_o) rfl) (jk2 (ko_X7_0 k_o) rfl) (jkc rfl) g6 dX7_laysEntries_10 ?_
      refine jr_icmp_ge (tgt := 80) C r_x2 (o_M3 (o + 1) 0).1 h dX7_laysEntries_11 (by decide) (fun hc11 h => ?_) (fun hc11 h => ?_)
      · refine lv_aload_n C.1 C.2.1 dX7_laysEntries_14 rfl (lv_at hl 2 rfl) ?_
        refine lv_iload_n C.1 C.2.1 dX7_laysEntries_15 rfl (lv_at hl 1 rfl) ?_
        refine lv_iload_n C.1 C.2.1 dX7_laysEntries_16 rfl (lv_at hl 3 rfl) ?_
        refine cl_X7_tells C hl.1 B q_986 ⟨Nat.le_of_ble_eq_true rfl, Nat.le_of_ble_eq_true rfl⟩ ⟨Nat.zero_le _, Nat.zero_le _⟩ (Nat.le_of_ble_eq_true rfl) k_o r_x2 r_a1 h dX7_laysEntries_17 (fun x7 M8 r_x7 _ _ h B => ?_)
        have o_M8 := B.2.2
        refine lv_istore (lv' := [(4, .int (jI x7)), (2, .int (jI x1)), (3, .int (jI x2)), (0, .ref (jD G o)), (1, .int (jI a1))]) C.1 C.2.1 dX7_laysEntries_20 hl (by decide) rfl (fun ls hl => ?_)
        refine jr_iconst C dX7_laysEntries_22 ?_
        refine lv_istore (lv' := [(5, .int (jI 0)), (4, .int (jI x7)), (2, .int (jI x1)), (3, .int (jI x2)), (0, .ref (jD G o)), (1, .int (jI a1))]) C.1 C.2.1 dX7_laysEntries_23 hl (by decide) rfl (fun ls hl => ?_)
        obtain ⟨kx25, hkx25, h⟩ : ∃ kx25 : Int → jM → Prop, (∀ (x12 : Int) (M13 : jM) (H : Heap) (locs : List Loc) (ls : Array Slot), kx25 x12 M13 → jR x12 → Hp G M13 s.heap H locs → lv_has ls 6 [(2, .int (jI x12)), (3, .int (jI x2)), (0, .ref (jD G o)), (1, .int (jI a1))] → W p l e (rmm 5 114) s m args below meth c H locs 0 0 (MQ below (qI G k) args s 0 0 (gA G)) (F0 m 74 ls [])) ∧ lp_X7_laysEntries_25 o x2 x7 kx25 N x1 0 M8 := by
          refine ⟨_, ?_, h⟩
          intro x12 M13 H locs ls h r_x12 B hl
          have o_M13 := B.2.2
          refine jr_iinc (k := 1) (lv' := fun x14 => [(3, .int (jI x14)), (2, .int (jI x12)), (0, .ref (jD G o)), (1, .int (jI a1))]) C h hl rfl (by decide) (fun _ => rfl) dX7_laysEntries_74 (fun x14 h r_x14 ls hl => ?_)
          refine lv_goto (tgt := 4) C.1 C.2.1 dX7_laysEntries_77 (by decide) ?_
          exact ih4 _ _ _ _ _ _ h r_x12 r_x14 B (lv_sub hl [1, 0, 2, 3] rfl)
        have hL25 : ∀ (n : Nat) (x9 : Int) (x10 : Int) (M11 : jM) (H : Heap) (locs : List Loc) (ls : Array Slot), lp_X7_laysEntries_25 o x2 x7 kx25 n x9 x10 M11 → jR x9 → jR x10 → Hp G M11 s.heap H locs → lv_has ls 6 [(2, .int (jI x9)), (5, .int (jI x10)), (4, .int (jI x7)), (3, .int (jI x2)), (0, .ref (jD G o)), (1, .int (jI a1))] → W p l e (rmm 5 114) s m args below meth c H locs 0 0 (MQ below (qI G k) args s 0 0 (gA G)) (F0 m 25 ls []) := by
          intro n
          induction n with
          | zero => intro x9 x10 M11 H locs ls h; exact (show False from h).elim
          | succ n ih25 =>
            intro x9 x10 M11 H locs ls h r_x9 r_x10 B hl
            have o_M11 := B.2.2
            rw [lp_X7_laysEntries_25] at h
            refine lv_iload C.1 C.2.1 dX7_laysEntries_25 (lv_at hl 1 rfl) ?_
            refine lv_iload C.1 C.2.1 dX7_laysEntries_27 (lv_at hl 2 rfl) ?_
            refine jr_icmp_ge (tgt := 74) C r_x10 r_x7 h dX7_laysEntries_29 (by decide) (fun hc29 h => ?_) (fun hc29 h => ?_)
            · refine lv_aload_n C.1 C.2.1 dX7_laysEntries_32 rfl (lv_at hl 4 rfl) ?_
              refine gf_X7_28 C B k_o dX7_laysEntries_33 ?_
              refine lv_iload_n C.1 C.2.1 dX7_laysEntries_36 rfl (lv_at hl 0 rfl) ?_
              refine lv_aload_n C.1 C.2.1 dX7_laysEntries_37 rfl (lv_at hl 4 rfl) ?_
              refine gf_X7_25 C B k_o dX7_laysEntries_38 ?_
              refine lv_iload C.1 C.2.1 dX7_laysEntries_41 (lv_at hl 1 rfl) ?_
              obtain ⟨g15, h⟩ := h
              refine jr_iald C B 20 (jk1 (ko_X7_10 k_o) rfl) (jk2 (ko_X7_10 k_o) rfl) r_x10 g15 dX7_laysEntries_43 ?_
              refine jr_iast C B 200 (jk1 (ko_X7_12 k_o) rfl) (jk2 (ko_X7_12 k_o) rfl) r_x9 (o_M11 (o + 6) x10).1 h dX7_laysEntries_44 (fun M16 _ _ h B => ?_)
              have o_M16 := B.2.2
              refine lv_aload_n C.1 C.2.1 dX7_laysEntries_45 rfl (lv_at hl 4 rfl) ?_
              refine gf_X7_31 C B k_o dX7_laysEntries_46 ?_
              refine lv_iload_n C.1 C.2.1 dX7_laysEntries_49 rfl (lv_at hl 0 rfl) ?_
              refine lv_aload_n C.1 C.2.1 dX7_laysEntries_50 rfl (lv_at hl 4 rfl) ?_
              refine lv_iload_n C.1 C.2.1 dX7_laysEntries_51 rfl (lv_at hl 3 rfl) ?_
              refine jr_iconst C dX7_laysEntries_52 ?_
              refine cl_X7_of C hl.1 B q_754 ⟨Nat.le_of_ble_eq_true rfl, Nat.le_of_ble_eq_true rfl⟩ ⟨Nat.zero_le _, Nat.zero_le _⟩ (Nat.le_of_ble_eq_true rfl) k_o r_x2 (jkc rfl) h dX7_laysEntries_53 (fun x17 r_x17 _ _ h B => ?_)
              refine jr_iast C B 200 (jk1 (ko_X7_13 k_o) rfl) (jk2 (ko_X7_13 k_o) rfl) r_x9 r_x17 h dX7_laysEntries_56 (fun M18 _ _ h B => ?_)
              have o_M18 := B.2.2
              refine lv_aload_n C.1 C.2.1 dX7_laysEntries_57 rfl (lv_at hl 4 rfl) ?_
              refine gf_X7_34 C B k_o dX7_laysEntries_58 ?_
              refine lv_iload_n C.1 C.2.1 dX7_laysEntries_61 rfl (lv_at hl 0 rfl) ?_
              refine lv_iload C.1 C.2.1 dX7_laysEntries_62 (lv_at hl 1 rfl) ?_
              refine jr_iast C B 200 (jk1 (ko_X7_14 k_o) rfl) (jk2 (ko_X7_14 k_o) rfl) r_x9 r_x10 h dX7_laysEntries_64 (fun M19 _ _ h B => ?_)
              have o_M19 := B.2.2
              refine jr_iinc (k := 0) (lv' := fun x20 => [(2, .int (jI x20)), (5, .int (jI x10)), (4, .int (jI x7)), (3, .int (jI x2)), (0, .ref (jD G o)), (1, .int (jI a1))]) C h hl rfl (by decide) (fun _ => rfl) dX7_laysEntries_65 (fun x20 h r_x20 ls hl => ?_)
              refine jr_iinc (k := 1) (lv' := fun x21 => [(5, .int (jI x21)), (2, .int (jI x20)), (4, .int (jI x7)), (3, .int (jI x2)), (0, .ref (jD G o)), (1, .int (jI a1))]) C h hl rfl (by decide) (fun _ => rfl) dX7_laysEntries_68 (fun x21 h r_x21 ls hl => ?_)
              refine lv_goto (tgt := 25) C.1 C.2.1 dX7_laysEntries_71 (by decide) ?_
              exact ih25 _ _ _ _ _ _ h r_x20 r_x21 B (lv_sub hl [1, 0, 2, 3, 4, 5] rfl)
            · exact hkx25 _ _ _ _ _ h r_x9 B (lv_sub hl [0, 3, 4, 5] rfl)
        exact hL25 N _ _ _ _ _ _ h r_x1 (jkc rfl) B (lv_sub hl [2, 0, 1, 3, 4, 5] rfl)
      · exact hkx4 _ _ _ _ _ h r_x1 B (lv_sub hl [0] rfl)
  exact hL4 N _ _ _ _ _ _ h (jkc rfl) (jkc rfl) B (lv_sub hl [1, 0, 2, 3] rfl)
theorem cl_X7_laysEntries {p : Program} {l : Launch} {e : Env} {R : Room} {s : State} {m : MethodId} {args : Array Value} {below : List Frame} {meth : Method} {c : Code} {H : Heap} {locs : List Loc} {cells slots : Nat} {Q : State → Prop} {cc : ByteArray} {nL : Nat} {own : String} {G : jG} {H0 : Heap} {pc idx : Nat} {ls : Array Slot} {rest : List Value} {N : Nat} {M : jM} {o a1 : Int} {k : Int → jM → Prop} (C : Cx G p s args m c cc nL own) (hl : ls.size = nL) (B : Hp G M H0 H locs) (q1 : Cond.methodLink own idx yX7_laysEntries ∈ tb) (hR : (rmm 5 114).frames + 1 ≤ R.frames ∧ 8 + (6 + 11) + (rmm 5 114).locals ≤ R.locals) (hcs : cells ≤ R.cells ∧ slots ≤ R.slots) (hW : (rest.map fun v => v.category).sum ≤ 8) (k_o : jK o = 8) (r_a1 : jR a1) (h : w_X7_laysEntries N M o a1 k) (hdg : decode cc pc = .ok (.invokevirtual idx, 3)) (kk : ∀ (r : Int) (M' : jM), jR r → ∀ (H1 : Heap) (locs1 : List Loc), k r M' → Hp G M' H0 H1 locs1 → W p l e R s m args below meth c H1 locs1 cells slots Q (F0 m (pc + 3) ls (.int (jI r) :: rest))) : W p l e R s m args below meth c H locs cells slots Q (F0 m pc ls (.int (jI a1) :: .ref (jD G o) :: rest)) :=
  jr_callI B (jr_runV (o := o) (As := [.int (jI a1)]) (n := 1) C hl B (m_X7_laysEntries B.2.2 k_o r_a1 h) (jE8 k_o) (by omega) rfl q1 q_1103 qs_71 q_1104 q_8 ⟨by decide, by decide, by decide +kernel⟩ rfl ⟨rfl, rfl⟩ hR hcs rfl hW hdg) (fun r M' H1 locs1 hr hk B1 => kk r M' hr H1 locs1 hk B1)
def w_X7_exploded (N : Nat) (M : jM) (o : Int) (a1 : Int) (k : Int → jM → Prop) : Prop := (w_X7_isColumn a1 (fun x1 => (if x1 = 0 then (k (-1000001) M) else (w_X7_laysEntries N M o a1 (fun x2 M3 => (k x2 M3))))))
set_option maxHeartbeats 4000000 in
set_option maxRecDepth 100000 in
theorem m_X7_exploded {l : Launch} {G : jG} {N : Nat} {M : jM} {o a1 : Int} {k : Int → jM → Prop} (o_M : jOK M) (k_o : jK o = 8) (r_a1 : jR a1) (h : w_X7_exploded N M o a1 k) : Met l yX7_exploded (wsG yX7_exploded cX7_exploded 2 (some .int)) (rmm 6 139) (jPc G M [.ref (jD G o), .int (jI a1)]) (qI G k) 0 0 (gA G) := by
  refine jm_start RX7 rfl (by decide) (Nat.le_of_ble_eq_true rfl) o_M ?_
  intro p e s m args below meth c ls C hr hlocks hl B
  have hl : lv_has ls 2 [(0, .ref (jD G o)), (1, .int (jI a1))] := hl
  unfold w_X7_exploded at h
  refine lv_iload_n C.1 C.2.1 dX7_exploded_0 rfl (lv_at hl 1 rfl) ?_
  refine cl_X7_isColumn C hl.1 B q_962 ⟨Nat.le_of_ble_eq_true rfl, Nat.le_of_ble_eq_true rfl⟩ ⟨Nat.zero_le _, Nat.zero_le _⟩ (Nat.le_of_ble_eq_true rfl) r_a1 h dX7_exploded_1 (fun x1 z_x1 _ _ h B => ?_)
  refine jr_if_eq (tgt := 15) C (zR z_x1) h dX7_exploded_4 (by decide) (fun hc4 h => ?_) (fun hc4 h => ?_)
  · refine jr_ldc (n := -1000001) C q_753 (by decide) dX7_exploded_15 ?_
    exact jr_iret C B hr hlocks (jkc rfl) h dX7_exploded_17
  · refine lv_aload_n C.1 C.2.1 dX7_exploded_7 rfl (lv_at hl 0 rfl) ?_
    refine lv_iload_n C.1 C.2.1 dX7_exploded_8 rfl (lv_at hl 1 rfl) ?_
    refine cl_X7_laysEntries C hl.1 B q_1101 ⟨Nat.le_of_ble_eq_true rfl, Nat.le_of_ble_eq_true rfl⟩ ⟨Nat.zero_le _, Nat.zero_le _⟩ (Nat.le_of_ble_eq_true rfl) k_o r_a1 h dX7_exploded_9 (fun x2 M3 r_x2 _ _ h B => ?_)
    have o_M3 := B.2.2
    refine lv_goto (tgt := 17) C.1 C.2.1 dX7_exploded_12 (by decide) ?_
    exact jr_iret C B hr hlocks r_x2 h dX7_exploded_17
theorem cl_X7_exploded {p : Program} {l : Launch} {e : Env} {R : Room} {s : State} {m : MethodId} {args : Array Value} {below : List Frame} {meth : Method} {c : Code} {H : Heap} {locs : List Loc} {cells slots : Nat} {Q : State → Prop} {cc : ByteArray} {nL : Nat} {own : String} {G : jG} {H0 : Heap} {pc idx : Nat} {ls : Array Slot} {rest : List Value} {N : Nat} {M : jM} {o a1 : Int} {k : Int → jM → Prop} (C : Cx G p s args m c cc nL own) (hl : ls.size = nL) (B : Hp G M H0 H locs) (q1 : Cond.methodLink own idx yX7_exploded ∈ tb) (hR : (rmm 6 139).frames + 1 ≤ R.frames ∧ 8 + (2 + 11) + (rmm 6 139).locals ≤ R.locals) (hcs : cells ≤ R.cells ∧ slots ≤ R.slots) (hW : (rest.map fun v => v.category).sum ≤ 8) (k_o : jK o = 8) (r_a1 : jR a1) (h : w_X7_exploded N M o a1 k) (hdg : decode cc pc = .ok (.invokevirtual idx, 3)) (kk : ∀ (r : Int) (M' : jM), jR r → ∀ (H1 : Heap) (locs1 : List Loc), k r M' → Hp G M' H0 H1 locs1 → W p l e R s m args below meth c H1 locs1 cells slots Q (F0 m (pc + 3) ls (.int (jI r) :: rest))) : W p l e R s m args below meth c H locs cells slots Q (F0 m pc ls (.int (jI a1) :: .ref (jD G o) :: rest)) :=
  jr_callI B (jr_runV (o := o) (As := [.int (jI a1)]) (n := 1) C hl B (m_X7_exploded B.2.2 k_o r_a1 h) (jE8 k_o) (by omega) rfl q1 q_1098 q_1099 q_1100 q_8 ⟨by decide, by decide, by decide +kernel⟩ rfl ⟨rfl, rfl⟩ hR hcs rfl hW hdg) (fun r M' H1 locs1 hr hk B1 => kk r M' hr H1 locs1 hk B1)
