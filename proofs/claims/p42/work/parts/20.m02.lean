def w_X6_unlock (N : Nat) (M : jM) (o : Int) (a1 : Int) (a2 : Int) (k : Int → jM → Prop) : Prop := (w_X4_find N M (o + 1) a2 (fun x1 => (w_X6_isBelow a1 4 (fun x2 => (if x2 = 0 then (k (-1000001) M) else (if x1 < 0 then (k (-1000001) M) else (w_X1_isOpenTo M x1 a1 (fun x3 => (if x3 = 0 then (k (-1000006) M) else (if (M x1 1) = (-1000007) then (k (-1000005) M) else (w_X6_remember N M o (fun M4 => (jL (jU M4 x1 1 (-1000007)) (fun M5 => (w_X4_lockCount N M5 (o + 1) a1 (fun x6 => (k x6 M5)))))))))))))))))
set_option maxHeartbeats 4000000 in
set_option maxRecDepth 100000 in
theorem m_X6_unlock {l : Launch} {G : jG} {N : Nat} {M : jM} {o a1 a2 : Int} {k : Int → jM → Prop} (o_M : jOK M) (k_o : jK o = 7) (r_a1 : jR a1) (r_a2 : jR a2) (h : w_X6_unlock N M o a1 a2 k) : Met l yX6_unlock (wsG yX6_unlock cX6_unlock 4 (some .int)) (rmm 5 124) (jPc G M [.ref (jD G o), .int (jI a1), .int (jI a2)]) (qI G k) 0 0 (gA G) := by
  refine jm_start RX6 rfl (by decide) (Nat.le_of_ble_eq_true rfl) o_M ?_
  intro p e s m args below meth c ls C hr hlocks hl B
  have hl : lv_has ls 4 [(0, .ref (jD G o)), (1, .int (jI a1)), (2, .int (jI a2))] := hl
  unfold w_X6_unlock at h
  refine lv_aload_n C.1 C.2.1 dX6_unlock_0 rfl (lv_at hl 0 rfl) ?_
  refine gf_X6_12 C B k_o dX6_unlock_1 ?_
  refine lv_iload_n C.1 C.2.1 dX6_unlock_4 rfl (lv_at hl 2 rfl) ?_
  refine cl_X4_find C hl.1 B q_271 ⟨Nat.le_of_ble_eq_true rfl, Nat.le_of_ble_eq_true rfl⟩ ⟨Nat.zero_le _, Nat.zero_le _⟩ (Nat.le_of_ble_eq_true rfl) (ko_X6_0 k_o) r_a2 h dX6_unlock_5 (fun x1 n_x1 _ _ h B => ?_)
  refine jr_astore_nN (lv' := [(3, jN G x1), (0, .ref (jD G o)), (1, .int (jI a1)), (2, .int (jI a2))]) C dX6_unlock_8 rfl hl (by decide) rfl (fun ls hl => ?_)
  refine lv_iload_n C.1 C.2.1 dX6_unlock_9 rfl (lv_at hl 2 rfl) ?_
  refine jr_iconst C dX6_unlock_10 ?_
  refine cl_X6_isBelow C hl.1 B q_233 ⟨Nat.le_of_ble_eq_true rfl, Nat.le_of_ble_eq_true rfl⟩ ⟨Nat.zero_le _, Nat.zero_le _⟩ (Nat.le_of_ble_eq_true rfl) r_a1 (jkc rfl) h dX6_unlock_11 (fun x2 z_x2 _ _ h B => ?_)
  refine jr_if_eq (tgt := 21) C (zR z_x2) h dX6_unlock_14 (by decide) (fun hc14 h => ?_) (fun hc14 h => ?_)
  · refine jr_ldc (n := -1000001) C q_236 (by decide) dX6_unlock_21 ?_
    exact jr_iret C B hr hlocks (jkc rfl) h dX6_unlock_23
  · refine jr_aload_nN C dX6_unlock_17 rfl (lv_at hl 0 rfl) ?_
    refine jr_ifnonnull (tgt := 24) C h dX6_unlock_18 (by decide) (fun hc18 h => ?_) (fun hc18 h => ?_)
    · refine jr_ldc (n := -1000001) C q_236 (by decide) dX6_unlock_21 ?_
      exact jr_iret C B hr hlocks (jkc rfl) h dX6_unlock_23
    · have k_x1 : jK x1 = 2 := n_x1.resolve_left hc18
      rw [jN_ref hc18] at hl
      refine lv_aload_n C.1 C.2.1 dX6_unlock_24 rfl (lv_at hl 0 rfl) ?_
      refine lv_iload_n C.1 C.2.1 dX6_unlock_25 rfl (lv_at hl 2 rfl) ?_
      refine cl_X1_isOpenTo C hl.1 B q_482 ⟨Nat.le_of_ble_eq_true rfl, Nat.le_of_ble_eq_true rfl⟩ ⟨Nat.zero_le _, Nat.zero_le _⟩ (Nat.le_of_ble_eq_true rfl) k_x1 r_a1 h dX6_unlock_26 (fun x3 z_x3 _ _ h B => ?_)
      refine jr_if_ne (tgt := 35) C (zR z_x3) h dX6_unlock_29 (by decide) (fun hc29 h => ?_) (fun hc29 h => ?_)
      · refine jr_ldc (n := -1000006) C q_486 (by decide) dX6_unlock_32 ?_
        exact jr_iret C B hr hlocks (jkc rfl) h dX6_unlock_34
      · refine lv_aload_n C.1 C.2.1 dX6_unlock_35 rfl (lv_at hl 0 rfl) ?_
        refine gf_X6_88 C B k_x1 dX6_unlock_36 ?_
        refine jr_ldc (n := -1000007) C q_199 (by decide) dX6_unlock_39 ?_
        refine jr_icmp_ne (tgt := 47) C (o_M x1 1).1 (jkc rfl) h dX6_unlock_41 (by decide) (fun hc41 h => ?_) (fun hc41 h => ?_)
        · refine jr_ldc (n := -1000005) C q_447 (by decide) dX6_unlock_44 ?_
          exact jr_iret C B hr hlocks (jkc rfl) h dX6_unlock_46
        · refine lv_aload_n C.1 C.2.1 dX6_unlock_47 rfl (lv_at hl 1 rfl) ?_
          refine cl_X6_remember C hl.1 B q_449 ⟨Nat.le_of_ble_eq_true rfl, Nat.le_of_ble_eq_true rfl⟩ ⟨Nat.zero_le _, Nat.zero_le _⟩ (Nat.le_of_ble_eq_true rfl) k_o h dX6_unlock_48 (fun M4 _ _ h B => ?_)
          have o_M4 := B.2.2
          refine lv_aload_n C.1 C.2.1 dX6_unlock_51 rfl (lv_at hl 0 rfl) ?_
          refine jr_ldc (n := -1000007) C q_199 (by decide) dX6_unlock_52 ?_
          refine pf_X6_88 C B k_x1 (jkc rfl) h dX6_unlock_54 (fun M5 _ _ h B => ?_)
          have o_M5 := B.2.2
          refine lv_aload_n C.1 C.2.1 dX6_unlock_57 rfl (lv_at hl 1 rfl) ?_
          refine gf_X6_12 C B k_o dX6_unlock_58 ?_
          refine lv_iload_n C.1 C.2.1 dX6_unlock_61 rfl (lv_at hl 2 rfl) ?_
          refine cl_X4_lockCount C hl.1 B q_651 ⟨Nat.le_of_ble_eq_true rfl, Nat.le_of_ble_eq_true rfl⟩ ⟨Nat.zero_le _, Nat.zero_le _⟩ (Nat.le_of_ble_eq_true rfl) (ko_X6_0 k_o) r_a1 h dX6_unlock_62 (fun x6 r_x6 _ _ h B => ?_)
          exact jr_iret C B hr hlocks r_x6 h dX6_unlock_65
theorem cl_X6_unlock {p : Program} {l : Launch} {e : Env} {R : Room} {s : State} {m : MethodId} {args : Array Value} {below : List Frame} {meth : Method} {c : Code} {H : Heap} {locs : List Loc} {cells slots : Nat} {Q : State → Prop} {cc : ByteArray} {nL : Nat} {own : String} {G : jG} {H0 : Heap} {pc idx : Nat} {ls : Array Slot} {rest : List Value} {N : Nat} {M : jM} {o a1 a2 : Int} {k : Int → jM → Prop} (C : Cx G p s args m c cc nL own) (hl : ls.size = nL) (B : Hp G M H0 H locs) (q1 : Cond.methodLink own idx yX6_unlock ∈ tb) (hR : (rmm 5 124).frames + 1 ≤ R.frames ∧ 8 + (4 + 11) + (rmm 5 124).locals ≤ R.locals) (hcs : cells ≤ R.cells ∧ slots ≤ R.slots) (hW : (rest.map fun v => v.category).sum ≤ 8) (k_o : jK o = 7) (r_a1 : jR a1) (r_a2 : jR a2) (h : w_X6_unlock N M o a1 a2 k) (hdg : decode cc pc = .ok (.invokevirtual idx, 3)) (kk : ∀ (r : Int) (M' : jM), jR r → ∀ (H1 : Heap) (locs1 : List Loc), k r M' → Hp G M' H0 H1 locs1 → W p l e R s m args below meth c H1 locs1 cells slots Q (F0 m (pc + 3) ls (.int (jI r) :: rest))) : W p l e R s m args below meth c H locs cells slots Q (F0 m pc ls (.int (jI a2) :: .int (jI a1) :: .ref (jD G o) :: rest)) :=
  jr_callI B (jr_runV (o := o) (As := [.int (jI a1), .int (jI a2)]) (n := 2) C hl B (m_X6_unlock B.2.2 k_o r_a1 r_a2 h) (jE7 k_o) (by omega) rfl q1 q_656 q_657 q_658 q_1 ⟨by decide, by decide, by decide +kernel⟩ rfl ⟨rfl, rfl⟩ hR hcs rfl hW hdg) (fun r M' H1 locs1 hr hk B1 => kk r M' hr H1 locs1 hk B1)
def w_X6_insertSub (N : Nat) (M : jM) (o : Int) (a1 : Int) (a2 : Int) (a3 : Int) (a4 : Int) (a5 : Int) (k : Int → jM → Prop) : Prop := (w_X1_subCount M a1 a2 a3 (fun x1 => (if x1 < 4 then (w_X6_remember N M o (fun M2 => (w_X1_addSub N M2 a1 a2 a3 a4 a5 (fun M3 => (w_X1_subCount M3 a1 a2 a3 (fun x4 => (k x4 M3))))))) else (k (-1000004) M))))
set_option maxHeartbeats 4000000 in
set_option maxRecDepth 100000 in
theorem m_X6_insertSub {l : Launch} {G : jG} {N : Nat} {M : jM} {o a1 a2 a3 a4 a5 : Int} {k : Int → jM → Prop} (o_M : jOK M) (k_o : jK o = 7) (k_a1 : jK a1 = 2) (r_a2 : jR a2) (r_a3 : jR a3) (r_a4 : jR a4) (r_a5 : jR a5) (h : w_X6_insertSub N M o a1 a2 a3 a4 a5 k) : Met l yX6_insertSub (wsG yX6_insertSub cX6_insertSub 6 (some .int)) (rmm 5 124) (jPc G M [.ref (jD G o), .ref (jD G a1), .int (jI a2), .int (jI a3), .int (jI a4), .int (jI a5)]) (qI G k) 0 0 (gA G) := by
  refine jm_start RX6 rfl (by decide) (Nat.le_of_ble_eq_true rfl) o_M ?_
  intro p e s m args below meth c ls C hr hlocks hl B
  have hl : lv_has ls 6 [(0, .ref (jD G o)), (1, .ref (jD G a1)), (2, .int (jI a2)), (3, .int (jI a3)), (4, .int (jI a4)), (5, .int (jI a5))] := hl
  unfold w_X6_insertSub at h
  refine lv_aload_n C.1 C.2.1 dX6_insertSub_0 rfl (lv_at hl 1 rfl) ?_
  refine lv_iload_n C.1 C.2.1 dX6_insertSub_1 rfl (lv_at hl 2 rfl) ?_
  refine lv_iload_n C.1 C.2.1 dX6_insertSub_2 rfl (lv_at hl 3 rfl) ?_
  refine cl_X1_subCount C hl.1 B q_292 ⟨Nat.le_of_ble_eq_true rfl, Nat.le_of_ble_eq_true rfl⟩ ⟨Nat.zero_le _, Nat.zero_le _⟩ (Nat.le_of_ble_eq_true rfl) k_a1 r_a2 r_a3 h dX6_insertSub_3 (fun x1 r_x1 _ _ h B => ?_)
  refine jr_iconst C dX6_insertSub_6 ?_
  refine jr_icmp_lt (tgt := 13) C r_x1 (jkc rfl) h dX6_insertSub_7 (by decide) (fun hc7 h => ?_) (fun hc7 h => ?_)
  · refine lv_aload_n C.1 C.2.1 dX6_insertSub_13 rfl (lv_at hl 0 rfl) ?_
    refine cl_X6_remember C hl.1 B q_449 ⟨Nat.le_of_ble_eq_true rfl, Nat.le_of_ble_eq_true rfl⟩ ⟨Nat.zero_le _, Nat.zero_le _⟩ (Nat.le_of_ble_eq_true rfl) k_o h dX6_insertSub_14 (fun M2 _ _ h B => ?_)
    have o_M2 := B.2.2
    refine lv_aload_n C.1 C.2.1 dX6_insertSub_17 rfl (lv_at hl 1 rfl) ?_
    refine lv_iload_n C.1 C.2.1 dX6_insertSub_18 rfl (lv_at hl 2 rfl) ?_
    refine lv_iload_n C.1 C.2.1 dX6_insertSub_19 rfl (lv_at hl 3 rfl) ?_
    refine lv_iload C.1 C.2.1 dX6_insertSub_20 (lv_at hl 4 rfl) ?_
    refine lv_iload C.1 C.2.1 dX6_insertSub_22 (lv_at hl 5 rfl) ?_
    refine cl_X1_addSub C hl.1 B q_507 ⟨Nat.le_of_ble_eq_true rfl, Nat.le_of_ble_eq_true rfl⟩ ⟨Nat.zero_le _, Nat.zero_le _⟩ (Nat.le_of_ble_eq_true rfl) k_a1 r_a2 r_a3 r_a4 r_a5 h dX6_insertSub_24 (fun M3 _ _ h B => ?_)
    have o_M3 := B.2.2
    refine lv_aload_n C.1 C.2.1 dX6_insertSub_27 rfl (lv_at hl 1 rfl) ?_
    refine lv_iload_n C.1 C.2.1 dX6_insertSub_28 rfl (lv_at hl 2 rfl) ?_
    refine lv_iload_n C.1 C.2.1 dX6_insertSub_29 rfl (lv_at hl 3 rfl) ?_
    refine cl_X1_subCount C hl.1 B q_292 ⟨Nat.le_of_ble_eq_true rfl, Nat.le_of_ble_eq_true rfl⟩ ⟨Nat.zero_le _, Nat.zero_le _⟩ (Nat.le_of_ble_eq_true rfl) k_a1 r_a2 r_a3 h dX6_insertSub_30 (fun x4 r_x4 _ _ h B => ?_)
    exact jr_iret C B hr hlocks r_x4 h dX6_insertSub_33
  · refine jr_ldc (n := -1000004) C q_448 (by decide) dX6_insertSub_10 ?_
    exact jr_iret C B hr hlocks (jkc rfl) h dX6_insertSub_12
theorem cl_X6_insertSub {p : Program} {l : Launch} {e : Env} {R : Room} {s : State} {m : MethodId} {args : Array Value} {below : List Frame} {meth : Method} {c : Code} {H : Heap} {locs : List Loc} {cells slots : Nat} {Q : State → Prop} {cc : ByteArray} {nL : Nat} {own : String} {G : jG} {H0 : Heap} {pc idx : Nat} {ls : Array Slot} {rest : List Value} {N : Nat} {M : jM} {o a1 a2 a3 a4 a5 : Int} {k : Int → jM → Prop} (C : Cx G p s args m c cc nL own) (hl : ls.size = nL) (B : Hp G M H0 H locs) (q1 : Cond.methodLink own idx yX6_insertSub ∈ tb) (hR : (rmm 5 124).frames + 1 ≤ R.frames ∧ 8 + (6 + 11) + (rmm 5 124).locals ≤ R.locals) (hcs : cells ≤ R.cells ∧ slots ≤ R.slots) (hW : (rest.map fun v => v.category).sum ≤ 8) (k_o : jK o = 7) (k_a1 : jK a1 = 2) (r_a2 : jR a2) (r_a3 : jR a3) (r_a4 : jR a4) (r_a5 : jR a5) (h : w_X6_insertSub N M o a1 a2 a3 a4 a5 k) (hdg : decode cc pc = .ok (.invokevirtual idx, 3)) (kk : ∀ (r : Int) (M' : jM), jR r → ∀ (H1 : Heap) (locs1 : List Loc), k r M' → Hp G M' H0 H1 locs1 → W p l e R s m args below meth c H1 locs1 cells slots Q (F0 m (pc + 3) ls (.int (jI r) :: rest))) : W p l e R s m args below meth c H locs cells slots Q (F0 m pc ls (.int (jI a5) :: .int (jI a4) :: .int (jI a3) :: .int (jI a2) :: .ref (jD G a1) :: .ref (jD G o) :: rest)) :=
  jr_callI B (jr_runV (o := o) (As := [.ref (jD G a1), .int (jI a2), .int (jI a3), .int (jI a4), .int (jI a5)]) (n := 5) C hl B (m_X6_insertSub B.2.2 k_o k_a1 r_a2 r_a3 r_a4 r_a5 h) (jE7 k_o) (by omega) rfl q1 q_505 qs_9 q_506 q_1 ⟨by decide, by decide, by decide +kernel⟩ rfl ⟨rfl, rfl⟩ hR hcs rfl hW hdg) (fun r M' H1 locs1 hr hk B1 => kk r M' hr H1 locs1 hk B1)
def w_X6_insertValue (N : Nat) (M : jM) (o : Int) (a1 : Int) (a2 : Int) (a3 : Int) (a4 : Int) (k : Int → jM → Prop) : Prop := (w_X1_valueCount M a1 a2 (fun x1 => (if x1 < 5 then (w_X6_remember N M o (fun M2 => (w_X1_addValue N M2 a1 a2 a3 a4 (fun M3 => (w_X1_valueCount M3 a1 a2 (fun x4 => (k x4 M3))))))) else (k (-1000004) M))))
set_option maxHeartbeats 4000000 in
set_option maxRecDepth 100000 in
theorem m_X6_insertValue {l : Launch} {G : jG} {N : Nat} {M : jM} {o a1 a2 a3 a4 : Int} {k : Int → jM → Prop} (o_M : jOK M) (k_o : jK o = 7) (k_a1 : jK a1 = 2) (r_a2 : jR a2) (r_a3 : jR a3) (r_a4 : jR a4) (h : w_X6_insertValue N M o a1 a2 a3 a4 k) : Met l yX6_insertValue (wsG yX6_insertValue cX6_insertValue 5 (some .int)) (rmm 5 124) (jPc G M [.ref (jD G o), .ref (jD G a1), .int (jI a2), .int (jI a3), .int (jI a4)]) (qI G k) 0 0 (gA G) := by
  refine jm_start RX6 rfl (by decide) (Nat.le_of_ble_eq_true rfl) o_M ?_
  intro p e s m args below meth c ls C hr hlocks hl B
  have hl : lv_has ls 5 [(0, .ref (jD G o)), (1, .ref (jD G a1)), (2, .int (jI a2)), (3, .int (jI a3)), (4, .int (jI a4))] := hl
  unfold w_X6_insertValue at h
  refine lv_aload_n C.1 C.2.1 dX6_insertValue_0 rfl (lv_at hl 1 rfl) ?_
  refine lv_iload_n C.1 C.2.1 dX6_insertValue_1 rfl (lv_at hl 2 rfl) ?_
  refine cl_X1_valueCount C hl.1 B q_279 ⟨Nat.le_of_ble_eq_true rfl, Nat.le_of_ble_eq_true rfl⟩ ⟨Nat.zero_le _, Nat.zero_le _⟩ (Nat.le_of_ble_eq_true rfl) k_a1 r_a2 h dX6_insertValue_2 (fun x1 r_x1 _ _ h B => ?_)
  refine jr_iconst C dX6_insertValue_5 ?_
  refine jr_icmp_lt (tgt := 12) C r_x1 (jkc rfl) h dX6_insertValue_6 (by decide) (fun hc6 h => ?_) (fun hc6 h => ?_)
  · refine lv_aload_n C.1 C.2.1 dX6_insertValue_12 rfl (lv_at hl 0 rfl) ?_
    refine cl_X6_remember C hl.1 B q_449 ⟨Nat.le_of_ble_eq_true rfl, Nat.le_of_ble_eq_true rfl⟩ ⟨Nat.zero_le _, Nat.zero_le _⟩ (Nat.le_of_ble_eq_true rfl) k_o h dX6_insertValue_13 (fun M2 _ _ h B => ?_)
    have o_M2 := B.2.2
    refine lv_aload_n C.1 C.2.1 dX6_insertValue_16 rfl (lv_at hl 1 rfl) ?_
    refine lv_iload_n C.1 C.2.1 dX6_insertValue_17 rfl (lv_at hl 2 rfl) ?_
    refine lv_iload_n C.1 C.2.1 dX6_insertValue_18 rfl (lv_at hl 3 rfl) ?_
    refine lv_iload C.1 C.2.1 dX6_insertValue_19 (lv_at hl 4 rfl) ?_
    refine cl_X1_addValue C hl.1 B q_491 ⟨Nat.le_of_ble_eq_true rfl, Nat.le_of_ble_eq_true rfl⟩ ⟨Nat.zero_le _, Nat.zero_le _⟩ (Nat.le_of_ble_eq_true rfl) k_a1 r_a2 r_a3 r_a4 h dX6_insertValue_21 (fun M3 _ _ h B => ?_)
    have o_M3 := B.2.2
    refine lv_aload_n C.1 C.2.1 dX6_insertValue_24 rfl (lv_at hl 1 rfl) ?_
    refine lv_iload_n C.1 C.2.1 dX6_insertValue_25 rfl (lv_at hl 2 rfl) ?_
    refine cl_X1_valueCount C hl.1 B q_279 ⟨Nat.le_of_ble_eq_true rfl, Nat.le_of_ble_eq_true rfl⟩ ⟨Nat.zero_le _, Nat.zero_le _⟩ (Nat.le_of_ble_eq_true rfl) k_a1 r_a2 h dX6_insertValue_26 (fun x4 r_x4 _ _ h B => ?_)
    exact jr_iret C B hr hlocks r_x4 h dX6_insertValue_29
  · refine jr_ldc (n := -1000004) C q_448 (by decide) dX6_insertValue_9 ?_
    exact jr_iret C B hr hlocks (jkc rfl) h dX6_insertValue_11
theorem cl_X6_insertValue {p : Program} {l : Launch} {e : Env} {R : Room} {s : State} {m : MethodId} {args : Array Value} {below : List Frame} {meth : Method} {c : Code} {H : Heap} {locs : List Loc} {cells slots : Nat} {Q : State → Prop} {cc : ByteArray} {nL : Nat} {own : String} {G : jG} {H0 : Heap} {pc idx : Nat} {ls : Array Slot} {rest : List Value} {N : Nat} {M : jM} {o a1 a2 a3 a4 : Int} {k : Int → jM → Prop} (C : Cx G p s args m c cc nL own) (hl : ls.size = nL) (B : Hp G M H0 H locs) (q1 : Cond.methodLink own idx yX6_insertValue ∈ tb) (hR : (rmm 5 124).frames + 1 ≤ R.frames ∧ 8 + (5 + 11) + (rmm 5 124).locals ≤ R.locals) (hcs : cells ≤ R.cells ∧ slots ≤ R.slots) (hW : (rest.map fun v => v.category).sum ≤ 8) (k_o : jK o = 7) (k_a1 : jK a1 = 2) (r_a2 : jR a2) (r_a3 : jR a3) (r_a4 : jR a4) (h : w_X6_insertValue N M o a1 a2 a3 a4 k) (hdg : decode cc pc = .ok (.invokevirtual idx, 3)) (kk : ∀ (r : Int) (M' : jM), jR r → ∀ (H1 : Heap) (locs1 : List Loc), k r M' → Hp G M' H0 H1 locs1 → W p l e R s m args below meth c H1 locs1 cells slots Q (F0 m (pc + 3) ls (.int (jI r) :: rest))) : W p l e R s m args below meth c H locs cells slots Q (F0 m pc ls (.int (jI a4) :: .int (jI a3) :: .int (jI a2) :: .ref (jD G a1) :: .ref (jD G o) :: rest)) :=
  jr_callI B (jr_runV (o := o) (As := [.ref (jD G a1), .int (jI a2), .int (jI a3), .int (jI a4)]) (n := 4) C hl B (m_X6_insertValue B.2.2 k_o k_a1 r_a2 r_a3 r_a4 h) (jE7 k_o) (by omega) rfl q1 q_489 qs_7 q_490 q_1 ⟨by decide, by decide, by decide +kernel⟩ rfl ⟨rfl, rfl⟩ hR hcs rfl hW hdg) (fun r M' H1 locs1 hr hk B1 => kk r M' hr H1 locs1 hk B1)
def w_X6_isNumber (a1 : Int) (k : Int → Prop) : Prop := (if a1 < (-999) then (k 0) else (if a1 ≤ 999 then (k 1) else (k 0)))
set_option maxHeartbeats 4000000 in
set_option maxRecDepth 100000 in
theorem m_X6_isNumber {l : Launch} {G : jG} {M : jM} {a1 : Int} {k : Int → Prop} (o_M : jOK M) (r_a1 : jR a1) (h : w_X6_isNumber a1 k) : Met l yX6_isNumber (wsG yX6_isNumber cX6_isNumber 1 (some .boolean)) (rmm 0 0) (jPc G M [.int (jI a1)]) (qZ G (fun r M' => M' = M ∧ k r)) 0 0 (gA G) := by
  refine jm_start RX6 rfl (by decide) (Nat.le_of_ble_eq_true rfl) o_M ?_
  intro p e s m args below meth c ls C hr hlocks hl B
  have hl : lv_has ls 1 [(0, .int (jI a1))] := hl
  unfold w_X6_isNumber at h
  refine lv_iload_n C.1 C.2.1 dX6_isNumber_0 rfl (lv_at hl 0 rfl) ?_
  refine jr_sipush C dX6_isNumber_1 (by decide) ?_
  refine jr_icmp_lt (tgt := 18) C r_a1 (jkc rfl) h dX6_isNumber_4 (by decide) (fun hc4 h => ?_) (fun hc4 h => ?_)
  · refine jr_iconst C dX6_isNumber_18 ?_
    exact jr_zret C B hr hlocks (Or.inl rfl) ⟨rfl, h⟩ dX6_isNumber_19
  · refine lv_iload_n C.1 C.2.1 dX6_isNumber_7 rfl (lv_at hl 0 rfl) ?_
    refine jr_sipush C dX6_isNumber_8 (by decide) ?_
    refine jr_icmp_gt (tgt := 18) C r_a1 (jkc rfl) h dX6_isNumber_11 (by decide) (fun hc11 h => ?_) (fun hc11 h => ?_)
    · refine jr_iconst C dX6_isNumber_14 ?_
      refine lv_goto (tgt := 19) C.1 C.2.1 dX6_isNumber_15 (by decide) ?_
      exact jr_zret C B hr hlocks (Or.inr rfl) ⟨rfl, h⟩ dX6_isNumber_19
    · refine jr_iconst C dX6_isNumber_18 ?_
      exact jr_zret C B hr hlocks (Or.inl rfl) ⟨rfl, h⟩ dX6_isNumber_19
theorem cl_X6_isNumber {p : Program} {l : Launch} {e : Env} {R : Room} {s : State} {m : MethodId} {args : Array Value} {below : List Frame} {meth : Method} {c : Code} {H : Heap} {locs : List Loc} {cells slots : Nat} {Q : State → Prop} {cc : ByteArray} {nL : Nat} {own : String} {G : jG} {H0 : Heap} {pc idx : Nat} {ls : Array Slot} {rest : List Value} {M : jM} {a1 : Int} {k : Int → Prop} (C : Cx G p s args m c cc nL own) (hl : ls.size = nL) (B : Hp G M H0 H locs) (q1 : Cond.methodLink own idx yX6_isNumber ∈ tb) (hR : (rmm 0 0).frames + 1 ≤ R.frames ∧ 8 + (1 + 11) + (rmm 0 0).locals ≤ R.locals) (hcs : cells ≤ R.cells ∧ slots ≤ R.slots) (hW : (rest.map fun v => v.category).sum ≤ 8) (r_a1 : jR a1) (h : w_X6_isNumber a1 k) (hdg : decode cc pc = .ok (.invokestatic idx, 3)) (kk : ∀ (r : Int), (r = 0 ∨ r = 1) → ∀ (H1 : Heap) (locs1 : List Loc), k r → Hp G M H0 H1 locs1 → W p l e R s m args below meth c H1 locs1 cells slots Q (F0 m (pc + 3) ls (.int (jI r) :: rest))) : W p l e R s m args below meth c H locs cells slots Q (F0 m pc ls (.int (jI a1) :: rest)) :=
  jr_callZ B (jr_runS (As := [.int (jI a1)]) (n := 1) C hl B (m_X6_isNumber B.2.2 r_a1 h) q1 q_321 q_322 q_1 ⟨by decide, by decide, by decide +kernel⟩ rfl ⟨rfl, rfl⟩ hR hcs rfl hW hdg) (fun r M' H1 locs1 hr hk B1 => by obtain ⟨rfl, hk⟩ := hk; exact kk r hr H1 locs1 hk B1)
def w_X6_insert (N : Nat) (M : jM) (o : Int) (a1 : Int) (a2 : Int) (a3 : Int) (a4 : Int) (a5 : Int) (a6 : Int) (k : Int → jM → Prop) : Prop := (w_X4_find N M (o + 1) a2 (fun x1 => (w_X6_isBelow a1 4 (fun x2 => (if x2 = 0 then (k (-1000001) M) else (if x1 < 0 then (k (-1000001) M) else (w_X1_hasRoomPlace M x1 a3 a4 a5 (fun x3 => (if x3 = 0 then (k (-1000001) M) else (w_X6_isNumber a6 (fun x4 => (if x4 = 0 then (k (-1000002) M) else (w_X1_isOpenTo M x1 a1 (fun x5 => (if x5 = 0 then (k (-1000006) M) else (if a5 = (-1) then (w_X6_insertValue N M o x1 a3 a4 a6 (fun x6 M7 => (k x6 M7))) else (w_X6_insertSub N M o x1 a3 a4 a5 a6 (fun x8 M9 => (k x8 M9)))))))))))))))))))
set_option maxHeartbeats 4000000 in
set_option maxRecDepth 100000 in
theorem m_X6_insert {l : Launch} {G : jG} {N : Nat} {M : jM} {o a1 a2 a3 a4 a5 a6 : Int} {k : Int → jM → Prop} (o_M : jOK M) (k_o : jK o = 7) (r_a1 : jR a1) (r_a2 : jR a2) (r_a3 : jR a3) (r_a4 : jR a4) (r_a5 : jR a5) (r_a6 : jR a6) (h : w_X6_insert N M o a1 a2 a3 a4 a5 a6 k) : Met l yX6_insert (wsG yX6_insert cX6_insert 8 (some .int)) (rmm 6 149) (jPc G M [.ref (jD G o), .int (jI a1), .int (jI a2), .int (jI a3), .int (jI a4), .int (jI a5), .int (jI a6)]) (qI G k) 0 0 (gA G) := by
  refine jm_start RX6 rfl (by decide) (Nat.le_of_ble_eq_true rfl) o_M ?_
  intro p e s m args below meth c ls C hr hlocks hl B
  have hl : lv_has ls 8 [(0, .ref (jD G o)), (1, .int (jI a1)), (2, .int (jI a2)), (3, .int (jI a3)), (4, .int (jI a4)), (5, .int (jI a5)), (6, .int (jI a6))] := hl
  unfold w_X6_insert at h
  refine lv_aload_n C.1 C.2.1 dX6_insert_0 rfl (lv_at hl 0 rfl) ?_
  refine gf_X6_12 C B k_o dX6_insert_1 ?_
  refine lv_iload_n C.1 C.2.1 dX6_insert_4 rfl (lv_at hl 2 rfl) ?_
  refine cl_X4_find C hl.1 B q_271 ⟨Nat.le_of_ble_eq_true rfl, Nat.le_of_ble_eq_true rfl⟩ ⟨Nat.zero_le _, Nat.zero_le _⟩ (Nat.le_of_ble_eq_true rfl) (ko_X6_0 k_o) r_a2 h dX6_insert_5 (fun x1 n_x1 _ _ h B => ?_)
  refine jr_astoreN (lv' := [(7, jN G x1), (0, .ref (jD G o)), (1, .int (jI a1)), (2, .int (jI a2)), (3, .int (jI a3)), (4, .int (jI a4)), (5, .int (jI a5)), (6, .int (jI a6))]) C dX6_insert_8 hl (by decide) rfl (fun ls hl => ?_)
  refine lv_iload_n C.1 C.2.1 dX6_insert_10 rfl (lv_at hl 2 rfl) ?_
  refine jr_iconst C dX6_insert_11 ?_
  refine cl_X6_isBelow C hl.1 B q_233 ⟨Nat.le_of_ble_eq_true rfl, Nat.le_of_ble_eq_true rfl⟩ ⟨Nat.zero_le _, Nat.zero_le _⟩ (Nat.le_of_ble_eq_true rfl) r_a1 (jkc rfl) h dX6_insert_12 (fun x2 z_x2 _ _ h B => ?_)
  refine jr_if_eq (tgt := 36) C (zR z_x2) h dX6_insert_15 (by decide) (fun hc15 h => ?_) (fun hc15 h => ?_)
  · refine jr_ldc (n := -1000001) C q_236 (by decide) dX6_insert_36 ?_
    exact jr_iret C B hr hlocks (jkc rfl) h dX6_insert_38
  · refine jr_aloadN C dX6_insert_18 (lv_at hl 0 rfl) ?_
    refine jr_ifnull (tgt := 36) C h dX6_insert_20 (by decide) (fun hc20 h => ?_) (fun hc20 h => ?_)
    · refine jr_ldc (n := -1000001) C q_236 (by decide) dX6_insert_36 ?_
      exact jr_iret C B hr hlocks (jkc rfl) h dX6_insert_38
    · have k_x1 : jK x1 = 2 := n_x1.resolve_left hc20
      rw [jN_ref hc20] at hl
      refine lv_aload C.1 C.2.1 dX6_insert_23 (lv_at hl 0 rfl) ?_
      refine lv_iload_n C.1 C.2.1 dX6_insert_25 rfl (lv_at hl 4 rfl) ?_
      refine lv_iload C.1 C.2.1 dX6_insert_26 (lv_at hl 5 rfl) ?_
      refine lv_iload C.1 C.2.1 dX6_insert_28 (lv_at hl 6 rfl) ?_
      refine cl_X1_hasRoomPlace C hl.1 B q_478 ⟨Nat.le_of_ble_eq_true rfl, Nat.le_of_ble_eq_true rfl⟩ ⟨Nat.zero_le _, Nat.zero_le _⟩ (Nat.le_of_ble_eq_true rfl) k_x1 r_a3 r_a4 r_a5 h dX6_insert_30 (fun x3 z_x3 _ _ h B => ?_)
      refine jr_if_ne (tgt := 39) C (zR z_x3) h dX6_insert_33 (by decide) (fun hc33 h => ?_) (fun hc33 h => ?_)
      · refine jr_ldc (n := -1000001) C q_236 (by decide) dX6_insert_36 ?_
        exact jr_iret C B hr hlocks (jkc rfl) h dX6_insert_38
      · refine lv_iload C.1 C.2.1 dX6_insert_39 (lv_at hl 7 rfl) ?_
        refine cl_X6_isNumber C hl.1 B q_320 ⟨Nat.le_of_ble_eq_true rfl, Nat.le_of_ble_eq_true rfl⟩ ⟨Nat.zero_le _, Nat.zero_le _⟩ (Nat.le_of_ble_eq_true rfl) r_a6 h dX6_insert_41 (fun x4 z_x4 _ _ h B => ?_)
        refine jr_if_ne (tgt := 50) C (zR z_x4) h dX6_insert_44 (by decide) (fun hc44 h => ?_) (fun hc44 h => ?_)
        · refine jr_ldc (n := -1000002) C q_237 (by decide) dX6_insert_47 ?_
          exact jr_iret C B hr hlocks (jkc rfl) h dX6_insert_49
        · refine lv_aload C.1 C.2.1 dX6_insert_50 (lv_at hl 0 rfl) ?_
          refine lv_iload_n C.1 C.2.1 dX6_insert_52 rfl (lv_at hl 2 rfl) ?_
          refine cl_X1_isOpenTo C hl.1 B q_482 ⟨Nat.le_of_ble_eq_true rfl, Nat.le_of_ble_eq_true rfl⟩ ⟨Nat.zero_le _, Nat.zero_le _⟩ (Nat.le_of_ble_eq_true rfl) k_x1 r_a1 h dX6_insert_53 (fun x5 z_x5 _ _ h B => ?_)
          refine jr_if_ne (tgt := 62) C (zR z_x5) h dX6_insert_56 (by decide) (fun hc56 h => ?_) (fun hc56 h => ?_)
          · refine jr_ldc (n := -1000006) C q_486 (by decide) dX6_insert_59 ?_
            exact jr_iret C B hr hlocks (jkc rfl) h dX6_insert_61
          · refine lv_iload C.1 C.2.1 dX6_insert_62 (lv_at hl 6 rfl) ?_
            refine jr_iconst C dX6_insert_64 ?_
            refine jr_icmp_ne (tgt := 80) C r_a5 (jkc rfl) h dX6_insert_65 (by decide) (fun hc65 h => ?_) (fun hc65 h => ?_)
            · refine lv_aload_n C.1 C.2.1 dX6_insert_68 rfl (lv_at hl 1 rfl) ?_
              refine lv_aload C.1 C.2.1 dX6_insert_69 (lv_at hl 0 rfl) ?_
              refine lv_iload_n C.1 C.2.1 dX6_insert_71 rfl (lv_at hl 4 rfl) ?_
              refine lv_iload C.1 C.2.1 dX6_insert_72 (lv_at hl 5 rfl) ?_
              refine lv_iload C.1 C.2.1 dX6_insert_74 (lv_at hl 7 rfl) ?_
              refine cl_X6_insertValue C hl.1 B q_487 ⟨Nat.le_of_ble_eq_true rfl, Nat.le_of_ble_eq_true rfl⟩ ⟨Nat.zero_le _, Nat.zero_le _⟩ (Nat.le_of_ble_eq_true rfl) k_o k_x1 r_a3 r_a4 r_a6 h dX6_insert_76 (fun x6 M7 r_x6 _ _ h B => ?_)
              have o_M7 := B.2.2
              exact jr_iret C B hr hlocks r_x6 h dX6_insert_79
            · refine lv_aload_n C.1 C.2.1 dX6_insert_80 rfl (lv_at hl 1 rfl) ?_
              refine lv_aload C.1 C.2.1 dX6_insert_81 (lv_at hl 0 rfl) ?_
              refine lv_iload_n C.1 C.2.1 dX6_insert_83 rfl (lv_at hl 4 rfl) ?_
              refine lv_iload C.1 C.2.1 dX6_insert_84 (lv_at hl 5 rfl) ?_
              refine lv_iload C.1 C.2.1 dX6_insert_86 (lv_at hl 6 rfl) ?_
              refine lv_iload C.1 C.2.1 dX6_insert_88 (lv_at hl 7 rfl) ?_
              refine cl_X6_insertSub C hl.1 B q_503 ⟨Nat.le_of_ble_eq_true rfl, Nat.le_of_ble_eq_true rfl⟩ ⟨Nat.zero_le _, Nat.zero_le _⟩ (Nat.le_of_ble_eq_true rfl) k_o k_x1 r_a3 r_a4 r_a5 r_a6 h dX6_insert_90 (fun x8 M9 r_x8 _ _ h B => ?_)
              have o_M9 := B.2.2
              exact jr_iret C B hr hlocks r_x8 h dX6_insert_93
theorem cl_X6_insert {p : Program} {l : Launch} {e : Env} {R : Room} {s : State} {m : MethodId} {args : Array Value} {below : List Frame} {meth : Method} {c : Code} {H : Heap} {locs : List Loc} {cells slots : Nat} {Q : State → Prop} {cc : ByteArray} {nL : Nat} {own : String} {G : jG} {H0 : Heap} {pc idx : Nat} {ls : Array Slot} {rest : List Value} {N : Nat} {M : jM} {o a1 a2 a3 a4 a5 a6 : Int} {k : Int → jM → Prop} (C : Cx G p s args m c cc nL own) (hl : ls.size = nL) (B : Hp G M H0 H locs) (q1 : Cond.methodLink own idx yX6_insert ∈ tb) (hR : (rmm 6 149).frames + 1 ≤ R.frames ∧ 8 + (8 + 11) + (rmm 6 149).locals ≤ R.locals) (hcs : cells ≤ R.cells ∧ slots ≤ R.slots) (hW : (rest.map fun v => v.category).sum ≤ 8) (k_o : jK o = 7) (r_a1 : jR a1) (r_a2 : jR a2) (r_a3 : jR a3) (r_a4 : jR a4) (r_a5 : jR a5) (r_a6 : jR a6) (h : w_X6_insert N M o a1 a2 a3 a4 a5 a6 k) (hdg : decode cc pc = .ok (.invokevirtual idx, 3)) (kk : ∀ (r : Int) (M' : jM), jR r → ∀ (H1 : Heap) (locs1 : List Loc), k r M' → Hp G M' H0 H1 locs1 → W p l e R s m args below meth c H1 locs1 cells slots Q (F0 m (pc + 3) ls (.int (jI r) :: rest))) : W p l e R s m args below meth c H locs cells slots Q (F0 m pc ls (.int (jI a6) :: .int (jI a5) :: .int (jI a4) :: .int (jI a3) :: .int (jI a2) :: .int (jI a1) :: .ref (jD G o) :: rest)) :=
  jr_callI B (jr_runV (o := o) (As := [.int (jI a1), .int (jI a2), .int (jI a3), .int (jI a4), .int (jI a5), .int (jI a6)]) (n := 6) C hl B (m_X6_insert B.2.2 k_o r_a1 r_a2 r_a3 r_a4 r_a5 r_a6 h) (jE7 k_o) (by omega) rfl q1 q_475 q_476 q_477 q_1 ⟨by decide, by decide, by decide +kernel⟩ rfl ⟨rfl, rfl⟩ hR hcs rfl hW hdg) (fun r M' H1 locs1 hr hk B1 => kk r M' hr H1 locs1 hk B1)
def w_X6_change (N : Nat) (M : jM) (o : Int) (a1 : Int) (a2 : Int) (a3 : Int) (a4 : Int) (a5 : Int) (a6 : Int) (k : Int → jM → Prop) : Prop := (w_X4_find N M (o + 1) a2 (fun x1 => (w_X6_isBelow a1 4 (fun x2 => (if x2 = 0 then (k (-1000001) M) else (if x1 < 0 then (k (-1000001) M) else (w_X1_hasSub M x1 a3 a4 a5 (fun x3 => (if x3 = 0 then (k (-1000001) M) else (w_X6_isNumber a6 (fun x4 => (if x4 = 0 then (k (-1000002) M) else (w_X1_isOpenTo M x1 a1 (fun x5 => (if x5 = 0 then (k (-1000006) M) else (w_X1_numberOf M x1 a3 a4 a5 (fun x6 => (w_X6_remember N M o (fun M7 => (w_X1_setNumber M7 x1 a3 a4 a5 a6 (fun M8 => (k x6 M8))))))))))))))))))))))
set_option maxHeartbeats 4000000 in
set_option maxRecDepth 100000 in
theorem m_X6_change {l : Launch} {G : jG} {N : Nat} {M : jM} {o a1 a2 a3 a4 a5 a6 : Int} {k : Int → jM → Prop} (o_M : jOK M) (k_o : jK o = 7) (r_a1 : jR a1) (r_a2 : jR a2) (r_a3 : jR a3) (r_a4 : jR a4) (r_a5 : jR a5) (r_a6 : jR a6) (h : w_X6_change N M o a1 a2 a3 a4 a5 a6 k) : Met l yX6_change (wsG yX6_change cX6_change 9 (some .int)) (rmm 5 124) (jPc G M [.ref (jD G o), .int (jI a1), .int (jI a2), .int (jI a3), .int (jI a4), .int (jI a5), .int (jI a6)]) (qI G k) 0 0 (gA G) := by
  refine jm_start RX6 rfl (by decide) (Nat.le_of_ble_eq_true rfl) o_M ?_
  intro p e s m args below meth c ls C hr hlocks hl B
  have hl : lv_has ls 9 [(0, .ref (jD G o)), (1, .int (jI a1)), (2, .int (jI a2)), (3, .int (jI a3)), (4, .int (jI a4)), (5, .int (jI a5)), (6, .int (jI a6))] := hl
  unfold w_X6_change at h
  refine lv_aload_n C.1 C.2.1 dX6_change_0 rfl (lv_at hl 0 rfl) ?_
  refine gf_X6_12 C B k_o dX6_change_1 ?_
  refine lv_iload_n C.1 C.2.1 dX6_change_4 rfl (lv_at hl 2 rfl) ?_
  refine cl_X4_find C hl.1 B q_271 ⟨Nat.le_of_ble_eq_true rfl, Nat.le_of_ble_eq_true rfl⟩ ⟨Nat.zero_le _, Nat.zero_le _⟩ (Nat.le_of_ble_eq_true rfl) (ko_X6_0 k_o) r_a2 h dX6_change_5 (fun x1 n_x1 _ _ h B => ?_)
  refine jr_astoreN (lv' := [(7, jN G x1), (0, .ref (jD G o)), (1, .int (jI a1)), (2, .int (jI a2)), (3, .int (jI a3)), (4, .int (jI a4)), (5, .int (jI a5)), (6, .int (jI a6))]) C dX6_change_8 hl (by decide) rfl (fun ls hl => ?_)
  refine lv_iload_n C.1 C.2.1 dX6_change_10 rfl (lv_at hl 2 rfl) ?_
  refine jr_iconst C dX6_change_11 ?_
  refine cl_X6_isBelow C hl.1 B q_233 ⟨Nat.le_of_ble_eq_true rfl, Nat.le_of_ble_eq_true rfl⟩ ⟨Nat.zero_le _, Nat.zero_le _⟩ (Nat.le_of_ble_eq_true rfl) r_a1 (jkc rfl) h dX6_change_12 (fun x2 z_x2 _ _ h B => ?_)
  refine jr_if_eq (tgt := 36) C (zR z_x2) h dX6_change_15 (by decide) (fun hc15 h => ?_) (fun hc15 h => ?_)
  · refine jr_ldc (n := -1000001) C q_236 (by decide) dX6_change_36 ?_
    exact jr_iret C B hr hlocks (jkc rfl) h dX6_change_38
  · refine jr_aloadN C dX6_change_18 (lv_at hl 0 rfl) ?_
    refine jr_ifnull (tgt := 36) C h dX6_change_20 (by decide) (fun hc20 h => ?_) (fun hc20 h => ?_)
    · refine jr_ldc (n := -1000001) C q_236 (by decide) dX6_change_36 ?_
      exact jr_iret C B hr hlocks (jkc rfl) h dX6_change_38
    · have k_x1 : jK x1 = 2 := n_x1.resolve_left hc20
      rw [jN_ref hc20] at hl
      refine lv_aload C.1 C.2.1 dX6_change_23 (lv_at hl 0 rfl) ?_
      refine lv_iload_n C.1 C.2.1 dX6_change_25 rfl (lv_at hl 4 rfl) ?_
      refine lv_iload C.1 C.2.1 dX6_change_26 (lv_at hl 5 rfl) ?_
      refine lv_iload C.1 C.2.1 dX6_change_28 (lv_at hl 6 rfl) ?_
      refine cl_X1_hasSub C hl.1 B q_300 ⟨Nat.le_of_ble_eq_true rfl, Nat.le_of_ble_eq_true rfl⟩ ⟨Nat.zero_le _, Nat.zero_le _⟩ (Nat.le_of_ble_eq_true rfl) k_x1 r_a3 r_a4 r_a5 h dX6_change_30 (fun x3 z_x3 _ _ h B => ?_)
      refine jr_if_ne (tgt := 39) C (zR z_x3) h dX6_change_33 (by decide) (fun hc33 h => ?_) (fun hc33 h => ?_)
      · refine jr_ldc (n := -1000001) C q_236 (by decide) dX6_change_36 ?_
        exact jr_iret C B hr hlocks (jkc rfl) h dX6_change_38
      · refine lv_iload C.1 C.2.1 dX6_change_39 (lv_at hl 7 rfl) ?_
        refine cl_X6_isNumber C hl.1 B q_320 ⟨Nat.le_of_ble_eq_true rfl, Nat.le_of_ble_eq_true rfl⟩ ⟨Nat.zero_le _, Nat.zero_le _⟩ (Nat.le_of_ble_eq_true rfl) r_a6 h dX6_change_41 (fun x4 z_x4 _ _ h B => ?_)
        refine jr_if_ne (tgt := 50) C (zR z_x4) h dX6_change_44 (by decide) (fun hc44 h => ?_) (fun hc44 h => ?_)
        · refine jr_ldc (n := -1000002) C q_237 (by decide) dX6_change_47 ?_
          exact jr_iret C B hr hlocks (jkc rfl) h dX6_change_49
        · refine lv_aload C.1 C.2.1 dX6_change_50 (lv_at hl 0 rfl) ?_
          refine lv_iload_n C.1 C.2.1 dX6_change_52 rfl (lv_at hl 2 rfl) ?_
          refine cl_X1_isOpenTo C hl.1 B q_482 ⟨Nat.le_of_ble_eq_true rfl, Nat.le_of_ble_eq_true rfl⟩ ⟨Nat.zero_le _, Nat.zero_le _⟩ (Nat.le_of_ble_eq_true rfl) k_x1 r_a1 h dX6_change_53 (fun x5 z_x5 _ _ h B => ?_)
          refine jr_if_ne (tgt := 62) C (zR z_x5) h dX6_change_56 (by decide) (fun hc56 h => ?_) (fun hc56 h => ?_)
          · refine jr_ldc (n := -1000006) C q_486 (by decide) dX6_change_59 ?_
            exact jr_iret C B hr hlocks (jkc rfl) h dX6_change_61
          · refine lv_aload C.1 C.2.1 dX6_change_62 (lv_at hl 0 rfl) ?_
            refine lv_iload_n C.1 C.2.1 dX6_change_64 rfl (lv_at hl 4 rfl) ?_
            refine lv_iload C.1 C.2.1 dX6_change_65 (lv_at hl 5 rfl) ?_
            refine lv_iload C.1 C.2.1 dX6_change_67 (lv_at hl 6 rfl) ?_
            refine cl_X1_numberOf C hl.1 B q_306 ⟨Nat.le_of_ble_eq_true rfl, Nat.le_of_ble_eq_true rfl⟩ ⟨Nat.zero_le _, Nat.zero_le _⟩ (Nat.le_of_ble_eq_true rfl) k_x1 r_a3 r_a4 r_a5 h dX6_change_69 (fun x6 r_x6 _ _ h B => ?_)
            refine lv_istore (lv' := [(8, .int (jI x6)), (7, .ref (jD G x1)), (0, .ref (jD G o)), (1, .int (jI a1)), (2, .int (jI a2)), (3, .int (jI a3)), (4, .int (jI a4)), (5, .int (jI a5)), (6, .int (jI a6))]) C.1 C.2.1 dX6_change_72 hl (by decide) rfl (fun ls hl => ?_)
            refine lv_aload_n C.1 C.2.1 dX6_change_74 rfl (lv_at hl 2 rfl) ?_
            refine cl_X6_remember C hl.1 B q_449 ⟨Nat.le_of_ble_eq_true rfl, Nat.le_of_ble_eq_true rfl⟩ ⟨Nat.zero_le _, Nat.zero_le _⟩ (Nat.le_of_ble_eq_true rfl) k_o h dX6_change_75 (fun M7 _ _ h B => ?_)
            have o_M7 := B.2.2
            refine lv_aload C.1 C.2.1 dX6_change_78 (lv_at hl 1 rfl) ?_
            refine lv_iload_n C.1 C.2.1 dX6_change_80 rfl (lv_at hl 5 rfl) ?_
            refine lv_iload C.1 C.2.1 dX6_change_81 (lv_at hl 6 rfl) ?_
            refine lv_iload C.1 C.2.1 dX6_change_83 (lv_at hl 7 rfl) ?_
            refine lv_iload C.1 C.2.1 dX6_change_85 (lv_at hl 8 rfl) ?_
            refine cl_X1_setNumber C hl.1 B q_516 ⟨Nat.le_of_ble_eq_true rfl, Nat.le_of_ble_eq_true rfl⟩ ⟨Nat.zero_le _, Nat.zero_le _⟩ (Nat.le_of_ble_eq_true rfl) k_x1 r_a3 r_a4 r_a5 r_a6 h dX6_change_87 (fun M8 _ _ h B => ?_)
            have o_M8 := B.2.2
            refine lv_iload C.1 C.2.1 dX6_change_90 (lv_at hl 0 rfl) ?_
            exact jr_iret C B hr hlocks r_x6 h dX6_change_92
theorem cl_X6_change {p : Program} {l : Launch} {e : Env} {R : Room} {s : State} {m : MethodId} {args : Array Value} {below : List Frame} {meth : Method} {c : Code} {H : Heap} {locs : List Loc} {cells slots : Nat} {Q : State → Prop} {cc : ByteArray} {nL : Nat} {own : String} {G : jG} {H0 : Heap} {pc idx : Nat} {ls : Array Slot} {rest : List Value} {N : Nat} {M : jM} {o a1 a2 a3 a4 a5 a6 : Int} {k : Int → jM → Prop} (C : Cx G p s args m c cc nL own) (hl : ls.size = nL) (B : Hp G M H0 H locs) (q1 : Cond.methodLink own idx yX6_change ∈ tb) (hR : (rmm 5 124).frames + 1 ≤ R.frames ∧ 8 + (9 + 11) + (rmm 5 124).locals ≤ R.locals) (hcs : cells ≤ R.cells ∧ slots ≤ R.slots) (hW : (rest.map fun v => v.category).sum ≤ 8) (k_o : jK o = 7) (r_a1 : jR a1) (r_a2 : jR a2) (r_a3 : jR a3) (r_a4 : jR a4) (r_a5 : jR a5) (r_a6 : jR a6) (h : w_X6_change N M o a1 a2 a3 a4 a5 a6 k) (hdg : decode cc pc = .ok (.invokevirtual idx, 3)) (kk : ∀ (r : Int) (M' : jM), jR r → ∀ (H1 : Heap) (locs1 : List Loc), k r M' → Hp G M' H0 H1 locs1 → W p l e R s m args below meth c H1 locs1 cells slots Q (F0 m (pc + 3) ls (.int (jI r) :: rest))) : W p l e R s m args below meth c H locs cells slots Q (F0 m pc ls (.int (jI a6) :: .int (jI a5) :: .int (jI a4) :: .int (jI a3) :: .int (jI a2) :: .int (jI a1) :: .ref (jD G o) :: rest)) :=
  jr_callI B (jr_runV (o := o) (As := [.int (jI a1), .int (jI a2), .int (jI a3), .int (jI a4), .int (jI a5), .int (jI a6)]) (n := 6) C hl B (m_X6_change B.2.2 k_o r_a1 r_a2 r_a3 r_a4 r_a5 r_a6 h) (jE7 k_o) (by omega) rfl q1 q_513 q_514 q_515 q_1 ⟨by decide, by decide, by decide +kernel⟩ rfl ⟨rfl, rfl⟩ hR hcs rfl hW hdg) (fun r M' H1 locs1 hr hk B1 => kk r M' hr H1 locs1 hk B1)
def w_X6_remove (N : Nat) (M : jM) (o : Int) (a1 : Int) (a2 : Int) (a3 : Int) (a4 : Int) (a5 : Int) (k : Int → jM → Prop) : Prop := (w_X4_find N M (o + 1) a2 (fun x1 => (w_X6_isBelow a1 4 (fun x2 => (if x2 = 0 then (k (-1000001) M) else (if x1 < 0 then (k (-1000001) M) else (w_X1_hasPart M x1 a3 a4 a5 (fun x3 => (if x3 = 0 then (k (-1000001) M) else (w_X1_isOpenTo M x1 a1 (fun x4 => (if x4 = 0 then (k (-1000006) M) else (w_X6_remember N M o (fun M5 => (if a5 = (-1) then (w_X1_dropValue N M5 x1 a3 a4 (fun M6 => (w_X1_valueCount M6 x1 a3 (fun x7 => (k x7 M6))))) else (w_X1_subCount M5 x1 a3 a4 (fun x8 => (if x8 = 1 then (w_X1_dropValue N M5 x1 a3 a4 (fun M9 => (w_X1_valueCount M9 x1 a3 (fun x10 => (k x10 M9))))) else (w_X1_dropSub N M5 x1 a3 a4 a5 (fun M11 => (w_X1_valueCount M11 x1 a3 (fun x12 => (k x12 M11)))))))))))))))))))))))
set_option maxHeartbeats 4000000 in
set_option maxRecDepth 100000 in
theorem m_X6_remove {l : Launch} {G : jG} {N : Nat} {M : jM} {o a1 a2 a3 a4 a5 : Int} {k : Int → jM → Prop} (o_M : jOK M) (k_o : jK o = 7) (r_a1 : jR a1) (r_a2 : jR a2) (r_a3 : jR a3) (r_a4 : jR a4) (r_a5 : jR a5) (h : w_X6_remove N M o a1 a2 a3 a4 a5 k) : Met l yX6_remove (wsG yX6_remove cX6_remove 7 (some .int)) (rmm 5 124) (jPc G M [.ref (jD G o), .int (jI a1), .int (jI a2), .int (jI a3), .int (jI a4), .int (jI a5)]) (qI G k) 0 0 (gA G) := by
  refine jm_start RX6 rfl (by decide) (Nat.le_of_ble_eq_true rfl) o_M ?_
  intro p e s m args below meth c ls C hr hlocks hl B
  have hl : lv_has ls 7 [(0, .ref (jD G o)), (1, .int (jI a1)), (2, .int (jI a2)), (3, .int (jI a3)), (4, .int (jI a4)), (5, .int (jI a5))] := hl
  unfold w_X6_remove at h
  refine lv_aload_n C.1 C.2.1 dX6_remove_0 rfl (lv_at hl 0 rfl) ?_
  refine gf_X6_12 C B k_o dX6_remove_1 ?_
  refine lv_iload_n C.1 C.2.1 dX6_remove_4 rfl (lv_at hl 2 rfl) ?_
  refine cl_X4_find C hl.1 B q_271 ⟨Nat.le_of_ble_eq_true rfl, Nat.le_of_ble_eq_true rfl⟩ ⟨Nat.zero_le _, Nat.zero_le _⟩ (Nat.le_of_ble_eq_true rfl) (ko_X6_0 k_o) r_a2 h dX6_remove_5 (fun x1 n_x1 _ _ h B => ?_)
  refine jr_astoreN (lv' := [(6, jN G x1), (0, .ref (jD G o)), (1, .int (jI a1)), (2, .int (jI a2)), (3, .int (jI a3)), (4, .int (jI a4)), (5, .int (jI a5))]) C dX6_remove_8 hl (by decide) rfl (fun ls hl => ?_)
  refine lv_iload_n C.1 C.2.1 dX6_remove_10 rfl (lv_at hl 2 rfl) ?_
  refine jr_iconst C dX6_remove_11 ?_
  refine cl_X6_isBelow C hl.1 B q_233 ⟨Nat.le_of_ble_eq_true rfl, Nat.le_of_ble_eq_true rfl⟩ ⟨Nat.zero_le _, Nat.zero_le _⟩ (Nat.le_of_ble_eq_true rfl) r_a1 (jkc rfl) h dX6_remove_12 (fun x2 z_x2 _ _ h B => ?_)
  refine jr_if_eq (tgt := 36) C (zR z_x2) h dX6_remove_15 (by decide) (fun hc15 h => ?_) (fun hc15 h => ?_)
  · refine jr_ldc (n := -1000001) C q_236 (by decide) dX6_remove_36 ?_
    exact jr_iret C B hr hlocks (jkc rfl) h dX6_remove_38
  · refine jr_aloadN C dX6_remove_18 (lv_at hl 0 rfl) ?_
    refine jr_ifnull (tgt := 36) C h dX6_remove_20 (by decide) (fun hc20 h => ?_) (fun hc20 h => ?_)
    · refine jr_ldc (n := -1000001) C q_236 (by decide) dX6_remove_36 ?_
      exact jr_iret C B hr hlocks (jkc rfl) h dX6_remove_38
    · have k_x1 : jK x1 = 2 := n_x1.resolve_left hc20
      rw [jN_ref hc20] at hl
      refine lv_aload C.1 C.2.1 dX6_remove_23 (lv_at hl 0 rfl) ?_
      refine lv_iload_n C.1 C.2.1 dX6_remove_25 rfl (lv_at hl 4 rfl) ?_
      refine lv_iload C.1 C.2.1 dX6_remove_26 (lv_at hl 5 rfl) ?_
      refine lv_iload C.1 C.2.1 dX6_remove_28 (lv_at hl 6 rfl) ?_
      refine cl_X1_hasPart C hl.1 B q_521 ⟨Nat.le_of_ble_eq_true rfl, Nat.le_of_ble_eq_true rfl⟩ ⟨Nat.zero_le _, Nat.zero_le _⟩ (Nat.le_of_ble_eq_true rfl) k_x1 r_a3 r_a4 r_a5 h dX6_remove_30 (fun x3 z_x3 _ _ h B => ?_)
      refine jr_if_ne (tgt := 39) C (zR z_x3) h dX6_remove_33 (by decide) (fun hc33 h => ?_) (fun hc33 h => ?_)
      · refine jr_ldc (n := -1000001) C q_236 (by decide) dX6_remove_36 ?_
        exact jr_iret C B hr hlocks (jkc rfl) h dX6_remove_38
      · refine lv_aload C.1 C.2.1 dX6_remove_39 (lv_at hl 0 rfl) ?_
        refine lv_iload_n C.1 C.2.1 dX6_remove_41 rfl (lv_at hl 2 rfl) ?_
        refine cl_X1_isOpenTo C hl.1 B q_482 ⟨Nat.le_of_ble_eq_true rfl, Nat.le_of_ble_eq_true rfl⟩ ⟨Nat.zero_le _, Nat.zero_le _⟩ (Nat.le_of_ble_eq_true rfl) k_x1 r_a1 h dX6_remove_42 (fun x4 z_x4 _ _ h B => ?_)
        refine jr_if_ne (tgt := 51) C (zR z_x4) h dX6_remove_45 (by decide) (fun hc45 h => ?_) (fun hc45 h => ?_)
        · refine jr_ldc (n := -1000006) C q_486 (by decide) dX6_remove_48 ?_
          exact jr_iret C B hr hlocks (jkc rfl) h dX6_remove_50
        · refine lv_aload_n C.1 C.2.1 dX6_remove_51 rfl (lv_at hl 1 rfl) ?_
          refine cl_X6_remember C hl.1 B q_449 ⟨Nat.le_of_ble_eq_true rfl, Nat.le_of_ble_eq_true rfl⟩ ⟨Nat.zero_le _, Nat.zero_le _⟩ (Nat.le_of_ble_eq_true rfl) k_o h dX6_remove_52 (fun M5 _ _ h B => ?_)
          have o_M5 := B.2.2
          refine lv_iload C.1 C.2.1 dX6_remove_55 (lv_at hl 6 rfl) ?_
          refine jr_iconst C dX6_remove_57 ?_
          refine jr_icmp_eq (tgt := 73) C r_a5 (jkc rfl) h dX6_remove_58 (by decide) (fun hc58 h => ?_) (fun hc58 h => ?_)
          · refine lv_aload C.1 C.2.1 dX6_remove_73 (lv_at hl 0 rfl) ?_
            refine lv_iload_n C.1 C.2.1 dX6_remove_75 rfl (lv_at hl 4 rfl) ?_
            refine lv_iload C.1 C.2.1 dX6_remove_76 (lv_at hl 5 rfl) ?_
            refine cl_X1_dropValue C hl.1 B q_526 ⟨Nat.le_of_ble_eq_true rfl, Nat.le_of_ble_eq_true rfl⟩ ⟨Nat.zero_le _, Nat.zero_le _⟩ (Nat.le_of_ble_eq_true rfl) k_x1 r_a3 r_a4 h dX6_remove_78 (fun M6 _ _ h B => ?_)
            have o_M6 := B.2.2
            refine lv_goto (tgt := 94) C.1 C.2.1 dX6_remove_81 (by decide) ?_
            refine lv_aload C.1 C.2.1 dX6_remove_94 (lv_at hl 0 rfl) ?_
            refine lv_iload_n C.1 C.2.1 dX6_remove_96 rfl (lv_at hl 4 rfl) ?_
            refine cl_X1_valueCount C hl.1 B q_279 ⟨Nat.le_of_ble_eq_true rfl, Nat.le_of_ble_eq_true rfl⟩ ⟨Nat.zero_le _, Nat.zero_le _⟩ (Nat.le_of_ble_eq_true rfl) k_x1 r_a3 h dX6_remove_97 (fun x7 r_x7 _ _ h B => ?_)
            exact jr_iret C B hr hlocks r_x7 h dX6_remove_100
          · refine lv_aload C.1 C.2.1 dX6_remove_61 (lv_at hl 0 rfl) ?_
            refine lv_iload_n C.1 C.2.1 dX6_remove_63 rfl (lv_at hl 4 rfl) ?_
            refine lv_iload C.1 C.2.1 dX6_remove_64 (lv_at hl 5 rfl) ?_
            refine cl_X1_subCount C hl.1 B q_292 ⟨Nat.le_of_ble_eq_true rfl, Nat.le_of_ble_eq_true rfl⟩ ⟨Nat.zero_le _, Nat.zero_le _⟩ (Nat.le_of_ble_eq_true rfl) k_x1 r_a3 r_a4 h dX6_remove_66 (fun x8 r_x8 _ _ h B => ?_)
            refine jr_iconst C dX6_remove_69 ?_
            refine jr_icmp_ne (tgt := 84) C r_x8 (jkc rfl) h dX6_remove_70 (by decide) (fun hc70 h => ?_) (fun hc70 h => ?_)
            · refine lv_aload C.1 C.2.1 dX6_remove_73 (lv_at hl 0 rfl) ?_
              refine lv_iload_n C.1 C.2.1 dX6_remove_75 rfl (lv_at hl 4 rfl) ?_
              refine lv_iload C.1 C.2.1 dX6_remove_76 (lv_at hl 5 rfl) ?_
              refine cl_X1_dropValue C hl.1 B q_526 ⟨Nat.le_of_ble_eq_true rfl, Nat.le_of_ble_eq_true rfl⟩ ⟨Nat.zero_le _, Nat.zero_le _⟩ (Nat.le_of_ble_eq_true rfl) k_x1 r_a3 r_a4 h dX6_remove_78 (fun M9 _ _ h B => ?_)
              have o_M9 := B.2.2
              refine lv_goto (tgt := 94) C.1 C.2.1 dX6_remove_81 (by decide) ?_
              refine lv_aload C.1 C.2.1 dX6_remove_94 (lv_at hl 0 rfl) ?_
              refine lv_iload_n C.1 C.2.1 dX6_remove_96 rfl (lv_at hl 4 rfl) ?_
              refine cl_X1_valueCount C hl.1 B q_279 ⟨Nat.le_of_ble_eq_true rfl, Nat.le_of_ble_eq_true rfl⟩ ⟨Nat.zero_le _, Nat.zero_le _⟩ (Nat.le_of_ble_eq_true rfl) k_x1 r_a3 h dX6_remove_97 (fun x10 r_x10 _ _ h B => ?_)
              exact jr_iret C B hr hlocks r_x10 h dX6_remove_100
            · refine lv_aload C.1 C.2.1 dX6_remove_84 (lv_at hl 0 rfl) ?_
              refine lv_iload_n C.1 C.2.1 dX6_remove_86 rfl (lv_at hl 4 rfl) ?_
              refine lv_iload C.1 C.2.1 dX6_remove_87 (lv_at hl 5 rfl) ?_
              refine lv_iload C.1 C.2.1 dX6_remove_89 (lv_at hl 6 rfl) ?_
              refine cl_X1_dropSub C hl.1 B q_530 ⟨Nat.le_of_ble_eq_true rfl, Nat.le_of_ble_eq_true rfl⟩ ⟨Nat.zero_le _, Nat.zero_le _⟩ (Nat.le_of_ble_eq_true rfl) k_x1 r_a3 r_a4 r_a5 h dX6_remove_91 (fun M11 _ _ h B => ?_)
              have o_M11 := B.2.2
              refine lv_aload C.1 C.2.1 dX6_remove_94 (lv_at hl 0 rfl) ?_
              refine lv_iload_n C.1 C.2.1 dX6_remove_96 rfl (lv_at hl 4 rfl) ?_
              refine cl_X1_valueCount C hl.1 B q_279 ⟨Nat.le_of_ble_eq_true rfl, Nat.le_of_ble_eq_true rfl⟩ ⟨Nat.zero_le _, Nat.zero_le _⟩ (Nat.le_of_ble_eq_true rfl) k_x1 r_a3 h dX6_remove_97 (fun x12 r_x12 _ _ h B => ?_)
              exact jr_iret C B hr hlocks r_x12 h dX6_remove_100
theorem cl_X6_remove {p : Program} {l : Launch} {e : Env} {R : Room} {s : State} {m : MethodId} {args : Array Value} {below : List Frame} {meth : Method} {c : Code} {H : Heap} {locs : List Loc} {cells slots : Nat} {Q : State → Prop} {cc : ByteArray} {nL : Nat} {own : String} {G : jG} {H0 : Heap} {pc idx : Nat} {ls : Array Slot} {rest : List Value} {N : Nat} {M : jM} {o a1 a2 a3 a4 a5 : Int} {k : Int → jM → Prop} (C : Cx G p s args m c cc nL own) (hl : ls.size = nL) (B : Hp G M H0 H locs) (q1 : Cond.methodLink own idx yX6_remove ∈ tb) (hR : (rmm 5 124).frames + 1 ≤ R.frames ∧ 8 + (7 + 11) + (rmm 5 124).locals ≤ R.locals) (hcs : cells ≤ R.cells ∧ slots ≤ R.slots) (hW : (rest.map fun v => v.category).sum ≤ 8) (k_o : jK o = 7) (r_a1 : jR a1) (r_a2 : jR a2) (r_a3 : jR a3) (r_a4 : jR a4) (r_a5 : jR a5) (h : w_X6_remove N M o a1 a2 a3 a4 a5 k) (hdg : decode cc pc = .ok (.invokevirtual idx, 3)) (kk : ∀ (r : Int) (M' : jM), jR r → ∀ (H1 : Heap) (locs1 : List Loc), k r M' → Hp G M' H0 H1 locs1 → W p l e R s m args below meth c H1 locs1 cells slots Q (F0 m (pc + 3) ls (.int (jI r) :: rest))) : W p l e R s m args below meth c H locs cells slots Q (F0 m pc ls (.int (jI a5) :: .int (jI a4) :: .int (jI a3) :: .int (jI a2) :: .int (jI a1) :: .ref (jD G o) :: rest)) :=
  jr_callI B (jr_runV (o := o) (As := [.int (jI a1), .int (jI a2), .int (jI a3), .int (jI a4), .int (jI a5)]) (n := 5) C hl B (m_X6_remove B.2.2 k_o r_a1 r_a2 r_a3 r_a4 r_a5 h) (jE7 k_o) (by omega) rfl q1 q_518 q_519 q_520 q_1 ⟨by decide, by decide, by decide +kernel⟩ rfl ⟨rfl, rfl⟩ hR hcs rfl hW hdg) (fun r M' H1 locs1 hr hk B1 => kk r M' hr H1 locs1 hk B1)
def lp_X6_removeLine_65 (N : Nat) (o : Int) (a3 : Int) (x1 : Int) (kx65 : Int → jM → Prop) : Nat → Int → Int → jM → Prop
  | 0, _, _, _ => False
  | n + 1, x6, x7, M8 => (if x7 < 4 then (jB x7 4 ∧ (if (M8 ((o + 1) + 42) x7) = 0 then (jL (jW (x7 + 1)) (fun x12 => (lp_X6_removeLine_65 N o a3 x1 kx65 n x6 x12 M8))) else (w_X1_hasValue M8 x1 x7 a3 (fun x13 => (if x13 = 0 then (jL (jW (x7 + 1)) (fun x14 => (lp_X6_removeLine_65 N o a3 x1 kx65 n x6 x14 M8))) else (w_X1_dropValue N M8 x1 x7 a3 (fun M15 => (jL (jW (x6 + 1)) (fun x16 => (jL (jW (x7 + 1)) (fun x17 => (lp_X6_removeLine_65 N o a3 x1 kx65 n x16 x17 M15)))))))))))) else (kx65 x6 M8))
def w_X6_removeLine (N : Nat) (M : jM) (o : Int) (a1 : Int) (a2 : Int) (a3 : Int) (k : Int → jM → Prop) : Prop := (w_X4_find N M (o + 1) a2 (fun x1 => (w_X6_isBelow a1 4 (fun x2 => (if x2 = 0 then (k (-1000001) M) else (if x1 < 0 then (k (-1000001) M) else (if a3 < 0 then (k (-1000001) M) else (w_X4_lineCount N M (o + 1) x1 (fun x3 => (if a3 < x3 then (w_X1_isOpenTo M x1 a1 (fun x4 => (if x4 = 0 then (k (-1000006) M) else (w_X6_remember N M o (fun M5 => (lp_X6_removeLine_65 N o a3 x1 (fun (x9 : Int) (M10 : jM) => (k x9 M10)) N 0 0 M5)))))) else (k (-1000001) M)))))))))))
set_option maxHeartbeats 4000000 in
set_option maxRecDepth 100000 in
theorem m_X6_removeLine {l : Launch} {G : jG} {N : Nat} {M : jM} {o a1 a2 a3 : Int} {k : Int → jM → Prop} (o_M : jOK M) (k_o : jK o = 7) (r_a1 : jR a1) (r_a2 : jR a2) (r_a3 : jR a3) (h : w_X6_removeLine N M o a1 a2 a3 k) : Met l yX6_removeLine (wsG yX6_removeLine cX6_removeLine 7 (some .int)) (rmm 5 124) (jPc G M [.ref (jD G o), .int (jI a1), .int (jI a2), .int (jI a3)]) (qI G k) 0 0 (gA G) := by
  refine jm_start RX6 rfl (by decide) (Nat.le_of_ble_eq_true rfl) o_M ?_
  intro p e s m args below meth c ls C hr hlocks hl B
  have hl : lv_has ls 7 [(0, .ref (jD G o)), (1, .int (jI a1)), (2, .int (jI a2)), (3, .int (jI a3))] := hl
  unfold w_X6_removeLine at h
  refine lv_aload_n C.1 C.2.1 dX6_removeLine_0 rfl (lv_at hl 0 rfl) ?_
  refine gf_X6_12 C B k_o dX6_removeLine_1 ?_
  refine lv_iload_n C.1 C.2.1 dX6_removeLine_4 rfl (lv_at hl 2 rfl) ?_
  refine cl_X4_find C hl.1 B q_271 ⟨Nat.le_of_ble_eq_true rfl, Nat.le_of_ble_eq_true rfl⟩ ⟨Nat.zero_le _, Nat.zero_le _⟩ (Nat.le_of_ble_eq_true rfl) (ko_X6_0 k_o) r_a2 h dX6_removeLine_5 (fun x1 n_x1 _ _ h B => ?_)
  refine jr_astoreN (lv' := [(4, jN G x1), (0, .ref (jD G o)), (1, .int (jI a1)), (2, .int (jI a2)), (3, .int (jI a3))]) C dX6_removeLine_8 hl (by decide) rfl (fun ls hl => ?_)
  refine lv_iload_n C.1 C.2.1 dX6_removeLine_10 rfl (lv_at hl 2 rfl) ?_
  refine jr_iconst C dX6_removeLine_11 ?_
  refine cl_X6_isBelow C hl.1 B q_233 ⟨Nat.le_of_ble_eq_true rfl, Nat.le_of_ble_eq_true rfl⟩ ⟨Nat.zero_le _, Nat.zero_le _⟩ (Nat.le_of_ble_eq_true rfl) r_a1 (jkc rfl) h dX6_removeLine_12 (fun x2 z_x2 _ _ h B => ?_)
  refine jr_if_eq (tgt := 40) C (zR z_x2) h dX6_removeLine_15 (by decide) (fun hc15 h => ?_) (fun hc15 h => ?_)
  · refine jr_ldc (n := -1000001) C q_236 (by decide) dX6_removeLine_40 ?_
    exact jr_iret C B hr hlocks (jkc rfl) h dX6_removeLine_42
  · refine jr_aloadN C dX6_removeLine_18 (lv_at hl 0 rfl) ?_
    refine jr_ifnull (tgt := 40) C h dX6_removeLine_20 (by decide) (fun hc20 h => ?_) (fun hc20 h => ?_)
    · refine jr_ldc (n := -1000001) C q_236 (by decide) dX6_removeLine_40 ?_
      exact jr_iret C B hr hlocks (jkc rfl) h dX6_removeLine_42
    · have k_x1 : jK x1 = 2 := n_x1.resolve_left hc20
      rw [jN_ref hc20] at hl
      refine lv_iload_n C.1 C.2.1 dX6_removeLine_23 rfl (lv_at hl 4 rfl) ?_
      refine jr_if_lt (tgt := 40) C r_a3 h dX6_removeLine_24 (by decide) (fun hc24 h => ?_) (fun hc24 h => ?_)
      · refine jr_ldc (n := -1000001) C q_236 (by decide) dX6_removeLine_40 ?_
        exact jr_iret C B hr hlocks (jkc rfl) h dX6_removeLine_42
      · refine lv_iload_n C.1 C.2.1 dX6_removeLine_27 rfl (lv_at hl 4 rfl) ?_
        refine lv_aload_n C.1 C.2.1 dX6_removeLine_28 rfl (lv_at hl 1 rfl) ?_
        refine gf_X6_12 C B k_o dX6_removeLine_29 ?_
        refine lv_aload C.1 C.2.1 dX6_removeLine_32 (lv_at hl 0 rfl) ?_
        refine cl_X4_lineCount C hl.1 B q_327 ⟨Nat.le_of_ble_eq_true rfl, Nat.le_of_ble_eq_true rfl⟩ ⟨Nat.zero_le _, Nat.zero_le _⟩ (Nat.le_of_ble_eq_true rfl) (ko_X6_0 k_o) k_x1 h dX6_removeLine_34 (fun x3 r_x3 _ _ h B => ?_)
        refine jr_icmp_lt (tgt := 43) C r_a3 r_x3 h dX6_removeLine_37 (by decide) (fun hc37 h => ?_) (fun hc37 h => ?_)
        · refine lv_aload C.1 C.2.1 dX6_removeLine_43 (lv_at hl 0 rfl) ?_
          refine lv_iload_n C.1 C.2.1 dX6_removeLine_45 rfl (lv_at hl 2 rfl) ?_
          refine cl_X1_isOpenTo C hl.1 B q_482 ⟨Nat.le_of_ble_eq_true rfl, Nat.le_of_ble_eq_true rfl⟩ ⟨Nat.zero_le _, Nat.zero_le _⟩ (Nat.le_of_ble_eq_true rfl) k_x1 r_a1 h dX6_removeLine_46 (fun x4 z_x4 _ _ h B => ?_)
          refine jr_if_ne (tgt := 55) C (zR z_x4) h dX6_removeLine_49 (by decide) (fun hc49 h => ?_) (fun hc49 h => ?_)
          · refine jr_ldc (n := -1000006) C q_486 (by decide) dX6_removeLine_52 ?_
            exact jr_iret C B hr hlocks (jkc rfl) h dX6_removeLine_54
          · refine lv_aload_n C.1 C.2.1 dX6_removeLine_55 rfl (lv_at hl 1 rfl) ?_
            refine cl_X6_remember C hl.1 B q_449 ⟨Nat.le_of_ble_eq_true rfl, Nat.le_of_ble_eq_true rfl⟩ ⟨Nat.zero_le _, Nat.zero_le _⟩ (Nat.le_of_ble_eq_true rfl) k_o h dX6_removeLine_56 (fun M5 _ _ h B => ?_)
            have o_M5 := B.2.2
            refine jr_iconst C dX6_removeLine_59 ?_
            refine lv_istore (lv' := [(5, .int (jI 0)), (4, .ref (jD G x1)), (0, .ref (jD G o)), (1, .int (jI a1)), (2, .int (jI a2)), (3, .int (jI a3))]) C.1 C.2.1 dX6_removeLine_60 hl (by decide) rfl (fun ls hl => ?_)
            refine jr_iconst C dX6_removeLine_62 ?_
            refine lv_istore (lv' := [(6, .int (jI 0)), (5, .int (jI 0)), (4, .ref (jD G x1)), (0, .ref (jD G o)), (1, .int (jI a1)), (2, .int (jI a2)), (3, .int (jI a3))]) C.1 C.2.1 dX6_removeLine_63 hl (by decide) rfl (fun ls hl => ?_)
            obtain ⟨kx65, hkx65, h⟩ : ∃ kx65 : Int → jM → Prop, (∀ (x9 : Int) (M10 : jM) (H : Heap) (locs : List Loc) (ls : Array Slot), kx65 x9 M10 → jR x9 → Hp G M10 s.heap H locs → lv_has ls 7 [(5, .int (jI x9))] → W p l e (rmm 5 124) s m args below meth c H locs 0 0 (MQ below (qI G k) args s 0 0 (gA G)) (F0 m 112 ls [])) ∧ lp_X6_removeLine_65 N o a3 x1 kx65 N 0 0 M5 := by
              refine ⟨_, ?_, h⟩
              intro x9 M10 H locs ls h r_x9 B hl
              have o_M10 := B.2.2
              refine lv_iload C.1 C.2.1 dX6_removeLine_112 (lv_at hl 0 rfl) ?_
              exact jr_iret C B hr hlocks r_x9 h dX6_removeLine_114
            have hL65 : ∀ (n : Nat) (x6 : Int) (x7 : Int) (M8 : jM) (H : Heap) (locs : List Loc) (ls : Array Slot), lp_X6_removeLine_65 N o a3 x1 kx65 n x6 x7 M8 → jR x6 → jR x7 → Hp G M8 s.heap H locs → lv_has ls 7 [(5, .int (jI x6)), (6, .int (jI x7)), (4, .ref (jD G x1)), (0, .ref (jD G o)), (3, .int (jI a3))] → W p l e (rmm 5 124) s m args below meth c H locs 0 0 (MQ below (qI G k) args s 0 0 (gA G)) (F0 m 65 ls []) := by
              intro n
              induction n with
              | zero => intro x6 x7 M8 H locs ls h; exact (show False from h).elim
              | succ n ih65 =>
                intro x6 x7 M8 H locs ls h r_x6 r_x7 B hl
                have o_M8 := B.2.2
                rw [lp_X6_removeLine_65] at h
                refine lv_iload C.1 C.2.1 dX6_removeLine_65 (lv_at hl 1 rfl) ?_
                refine jr_iconst C dX6_removeLine_67 ?_
                refine jr_icmp_ge (tgt := 112) C r_x7 (jkc rfl) h dX6_removeLine_68 (by decide) (fun hc68 h => ?_) (fun hc68 h => ?_)
                · refine lv_aload_n C.1 C.2.1 dX6_removeLine_71 rfl (lv_at hl 3 rfl) ?_
                  refine gf_X6_12 C B k_o dX6_removeLine_72 ?_
                  refine gf_X6_150 C B (ko_X6_0 k_o) dX6_removeLine_75 ?_
                  refine lv_iload C.1 C.2.1 dX6_removeLine_78 (lv_at hl 1 rfl) ?_
                  obtain ⟨g11, h⟩ := h
                  refine jr_zald C B 4 (jk1 (ko_X4_2 (ko_X6_0 k_o)) rfl) (jk2 (ko_X4_2 (ko_X6_0 k_o)) rfl) r_x7 g11 dX6_removeLine_80 ?_
                  refine jr_if_eq (tgt := 106) C (zR (jz_a o_M8 (jk1 (ko_X4_2 (ko_X6_0 k_o)) rfl) x7)) h dX6_removeLine_81 (by decide) (fun hc81 h => ?_) (fun hc81 h => ?_)
                  · refine jr_iinc (k := 1) (lv' := fun x12 => [(6, .int (jI x12)), (5, .int (jI x6)), (4, .ref (jD G x1)), (0, .ref (jD G o)), (3, .int (jI a3))]) C h hl rfl (by decide) (fun _ => rfl) dX6_removeLine_106 (fun x12 h r_x12 ls hl => ?_)
                    refine lv_goto (tgt := 65) C.1 C.2.1 dX6_removeLine_109 (by decide) ?_
                    exact ih65 _ _ _ _ _ _ h r_x6 r_x12 B (lv_sub hl [1, 0, 2, 3, 4] rfl)
                  · refine lv_aload C.1 C.2.1 dX6_removeLine_84 (lv_at hl 2 rfl) ?_
                    refine lv_iload C.1 C.2.1 dX6_removeLine_86 (lv_at hl 1 rfl) ?_
                    refine lv_iload_n C.1 C.2.1 dX6_removeLine_88 rfl (lv_at hl 4 rfl) ?_
                    refine cl_X1_hasValue C hl.1 B q_287 ⟨Nat.le_of_ble_eq_true rfl, Nat.le_of_ble_eq_true rfl⟩ ⟨Nat.zero_le _, Nat.zero_le _⟩ (Nat.le_of_ble_eq_true rfl) k_x1 r_x7 r_a3 h dX6_removeLine_89 (fun x13 z_x13 _ _ h B => ?_)
                    refine jr_if_eq (tgt := 106) C (zR z_x13) h dX6_removeLine_92 (by decide) (fun hc92 h => ?_) (fun hc92 h => ?_)
                    · refine jr_iinc (k := 1) (lv' := fun x14 => [(6, .int (jI x14)), (5, .int (jI x6)), (4, .ref (jD G x1)), (0, .ref (jD G o)), (3, .int (jI a3))]) C h hl rfl (by decide) (fun _ => rfl) dX6_removeLine_106 (fun x14 h r_x14 ls hl => ?_)
                      refine lv_goto (tgt := 65) C.1 C.2.1 dX6_removeLine_109 (by decide) ?_
                      exact ih65 _ _ _ _ _ _ h r_x6 r_x14 B (lv_sub hl [1, 0, 2, 3, 4] rfl)
                    · refine lv_aload C.1 C.2.1 dX6_removeLine_95 (lv_at hl 2 rfl) ?_
                      refine lv_iload C.1 C.2.1 dX6_removeLine_97 (lv_at hl 1 rfl) ?_
                      refine lv_iload_n C.1 C.2.1 dX6_removeLine_99 rfl (lv_at hl 4 rfl) ?_
                      refine cl_X1_dropValue C hl.1 B q_526 ⟨Nat.le_of_ble_eq_true rfl, Nat.le_of_ble_eq_true rfl⟩ ⟨Nat.zero_le _, Nat.zero_le _⟩ (Nat.le_of_ble_eq_true rfl) k_x1 r_x7 r_a3 h dX6_removeLine_100 (fun M15 _ _ h B => ?_)
                      have o_M15 := B.2.2
                      refine jr_iinc (k := 0) (lv' := fun x16 => [(5, .int (jI x16)), (6, .int (jI x7)), (4, .ref (jD G x1)), (0, .ref (jD G o)), (3, .int (jI a3))]) C h hl rfl (by decide) (fun _ => rfl) dX6_removeLine_103 (fun x16 h r_x16 ls hl => ?_)
                      refine jr_iinc (k := 1) (lv' := fun x17 => [(6, .int (jI x17)), (5, .int (jI x16)), (4, .ref (jD G x1)), (0, .ref (jD G o)), (3, .int (jI a3))]) C h hl rfl (by decide) (fun _ => rfl) dX6_removeLine_106 (fun x17 h r_x17 ls hl => ?_)
                      refine lv_goto (tgt := 65) C.1 C.2.1 dX6_removeLine_109 (by decide) ?_
                      exact ih65 _ _ _ _ _ _ h r_x16 r_x17 B (lv_sub hl [1, 0, 2, 3, 4] rfl)
                · exact hkx65 _ _ _ _ _ h r_x6 B (lv_sub hl [0] rfl)
            exact hL65 N _ _ _ _ _ _ h (jkc rfl) (jkc rfl) B (lv_sub hl [1, 0, 2, 3, 6] rfl)
        · refine jr_ldc (n := -1000001) C q_236 (by decide) dX6_removeLine_40 ?_
          exact jr_iret C B hr hlocks (jkc rfl) h dX6_removeLine_42
theorem cl_X6_removeLine {p : Program} {l : Launch} {e : Env} {R : Room} {s : State} {m : MethodId} {args : Array Value} {below : List Frame} {meth : Method} {c : Code} {H : Heap} {locs : List Loc} {cells slots : Nat} {Q : State → Prop} {cc : ByteArray} {nL : Nat} {own : String} {G : jG} {H0 : Heap} {pc idx : Nat} {ls : Array Slot} {rest : List Value} {N : Nat} {M : jM} {o a1 a2 a3 : Int} {k : Int → jM → Prop} (C : Cx G p s args m c cc nL own) (hl : ls.size = nL) (B : Hp G M H0 H locs) (q1 : Cond.methodLink own idx yX6_removeLine ∈ tb) (hR : (rmm 5 124).frames + 1 ≤ R.frames ∧ 8 + (7 + 11) + (rmm 5 124).locals ≤ R.locals) (hcs : cells ≤ R.cells ∧ slots ≤ R.slots) (hW : (rest.map fun v => v.category).sum ≤ 8) (k_o : jK o = 7) (r_a1 : jR a1) (r_a2 : jR a2) (r_a3 : jR a3) (h : w_X6_removeLine N M o a1 a2 a3 k) (hdg : decode cc pc = .ok (.invokevirtual idx, 3)) (kk : ∀ (r : Int) (M' : jM), jR r → ∀ (H1 : Heap) (locs1 : List Loc), k r M' → Hp G M' H0 H1 locs1 → W p l e R s m args below meth c H1 locs1 cells slots Q (F0 m (pc + 3) ls (.int (jI r) :: rest))) : W p l e R s m args below meth c H locs cells slots Q (F0 m pc ls (.int (jI a3) :: .int (jI a2) :: .int (jI a1) :: .ref (jD G o) :: rest)) :=
  jr_callI B (jr_runV (o := o) (As := [.int (jI a1), .int (jI a2), .int (jI a3)]) (n := 3) C hl B (m_X6_removeLine B.2.2 k_o r_a1 r_a2 r_a3 h) (jE7 k_o) (by omega) rfl q1 q_668 q_669 q_670 q_1 ⟨by decide, by decide, by decide +kernel⟩ rfl ⟨rfl, rfl⟩ hR hcs rfl hW hdg) (fun r M' H1 locs1 hr hk B1 => kk r M' hr H1 locs1 hk B1)
def w_X6_load (N : Nat) (M : jM) (o : Int) (a1 : Int) (a2 : Int) (k : Int → jM → Prop) : Prop := (w_X4_find N M (o + 1) a2 (fun x1 => (w_X6_isBelow a1 4 (fun x2 => (if x2 = 0 then (k (-1000001) M) else (if x1 < 0 then (k (-1000001) M) else (w_X5_read N M (o + 241) (o + 237) (fun x3 M4 => (if x3 = (-1000007) then (w_X1_isOpenTo M4 x1 a1 (fun x5 => (if x5 = 0 then (k (-1000006) M4) else (w_X6_remember N M4 o (fun M6 => (w_X1_copyFields M6 x1 ((o + 241) + 1) (fun M7 => (w_X1_allSubCount N M7 x1 (fun x8 => (k x8 M7)))))))))) else (k (-1000003) M4))))))))))
set_option maxHeartbeats 4000000 in
set_option maxRecDepth 100000 in
theorem m_X6_load {l : Launch} {G : jG} {N : Nat} {M : jM} {o a1 a2 : Int} {k : Int → jM → Prop} (o_M : jOK M) (k_o : jK o = 7) (r_a1 : jR a1) (r_a2 : jR a2) (h : w_X6_load N M o a1 a2 k) : Met l yX6_load (wsG yX6_load cX6_load 4 (some .int)) (rmm 7 173) (jPc G M [.ref (jD G o), .int (jI a1), .int (jI a2)]) (qI G k) 0 0 (gA G) := by
  refine jm_start RX6 rfl (by decide) (Nat.le_of_ble_eq_true rfl) o_M ?_
  intro p e s m args below meth c ls C hr hlocks hl B
  have hl : lv_has ls 4 [(0, .ref (jD G o)), (1, .int (jI a1)), (2, .int (jI a2))] := hl
  unfold w_X6_load at h
  refine lv_aload_n C.1 C.2.1 dX6_load_0 rfl (lv_at hl 0 rfl) ?_
  refine gf_X6_12 C B k_o dX6_load_1 ?_
  refine lv_iload_n C.1 C.2.1 dX6_load_4 rfl (lv_at hl 2 rfl) ?_
  refine cl_X4_find C hl.1 B q_271 ⟨Nat.le_of_ble_eq_true rfl, Nat.le_of_ble_eq_true rfl⟩ ⟨Nat.zero_le _, Nat.zero_le _⟩ (Nat.le_of_ble_eq_true rfl) (ko_X6_0 k_o) r_a2 h dX6_load_5 (fun x1 n_x1 _ _ h B => ?_)
  refine jr_astore_nN (lv' := [(3, jN G x1), (0, .ref (jD G o)), (1, .int (jI a1)), (2, .int (jI a2))]) C dX6_load_8 rfl hl (by decide) rfl (fun ls hl => ?_)
  refine lv_iload_n C.1 C.2.1 dX6_load_9 rfl (lv_at hl 2 rfl) ?_
  refine jr_iconst C dX6_load_10 ?_
  refine cl_X6_isBelow C hl.1 B q_233 ⟨Nat.le_of_ble_eq_true rfl, Nat.le_of_ble_eq_true rfl⟩ ⟨Nat.zero_le _, Nat.zero_le _⟩ (Nat.le_of_ble_eq_true rfl) r_a1 (jkc rfl) h dX6_load_11 (fun x2 z_x2 _ _ h B => ?_)
  refine jr_if_eq (tgt := 21) C (zR z_x2) h dX6_load_14 (by decide) (fun hc14 h => ?_) (fun hc14 h => ?_)
  · refine jr_ldc (n := -1000001) C q_236 (by decide) dX6_load_21 ?_
    exact jr_iret C B hr hlocks (jkc rfl) h dX6_load_23
  · refine jr_aload_nN C dX6_load_17 rfl (lv_at hl 0 rfl) ?_
    refine jr_ifnonnull (tgt := 24) C h dX6_load_18 (by decide) (fun hc18 h => ?_) (fun hc18 h => ?_)
    · refine jr_ldc (n := -1000001) C q_236 (by decide) dX6_load_21 ?_
      exact jr_iret C B hr hlocks (jkc rfl) h dX6_load_23
    · have k_x1 : jK x1 = 2 := n_x1.resolve_left hc18
      rw [jN_ref hc18] at hl
      refine lv_aload_n C.1 C.2.1 dX6_load_24 rfl (lv_at hl 1 rfl) ?_
      refine gf_X6_39 C B k_o dX6_load_25 ?_
      refine lv_aload_n C.1 C.2.1 dX6_load_28 rfl (lv_at hl 1 rfl) ?_
      refine gf_X6_29 C B k_o dX6_load_29 ?_
      refine cl_X5_read C hl.1 B q_559 ⟨Nat.le_of_ble_eq_true rfl, Nat.le_of_ble_eq_true rfl⟩ ⟨Nat.zero_le _, Nat.zero_le _⟩ (Nat.le_of_ble_eq_true rfl) (ko_X6_5 k_o) (ko_X6_3 k_o) h dX6_load_32 (fun x3 M4 r_x3 _ _ h B => ?_)
      have o_M4 := B.2.2
      refine jr_ldc (n := -1000007) C q_199 (by decide) dX6_load_35 ?_
      refine jr_icmp_eq (tgt := 43) C r_x3 (jkc rfl) h dX6_load_37 (by decide) (fun hc37 h => ?_) (fun hc37 h => ?_)
      · refine lv_aload_n C.1 C.2.1 dX6_load_43 rfl (lv_at hl 0 rfl) ?_
        refine lv_iload_n C.1 C.2.1 dX6_load_44 rfl (lv_at hl 2 rfl) ?_
        refine cl_X1_isOpenTo C hl.1 B q_482 ⟨Nat.le_of_ble_eq_true rfl, Nat.le_of_ble_eq_true rfl⟩ ⟨Nat.zero_le _, Nat.zero_le _⟩ (Nat.le_of_ble_eq_true rfl) k_x1 r_a1 h dX6_load_45 (fun x5 z_x5 _ _ h B => ?_)
        refine jr_if_ne (tgt := 54) C (zR z_x5) h dX6_load_48 (by decide) (fun hc48 h => ?_) (fun hc48 h => ?_)
        · refine jr_ldc (n := -1000006) C q_486 (by decide) dX6_load_51 ?_
          exact jr_iret C B hr hlocks (jkc rfl) h dX6_load_53
        · refine lv_aload_n C.1 C.2.1 dX6_load_54 rfl (lv_at hl 1 rfl) ?_
          refine cl_X6_remember C hl.1 B q_449 ⟨Nat.le_of_ble_eq_true rfl, Nat.le_of_ble_eq_true rfl⟩ ⟨Nat.zero_le _, Nat.zero_le _⟩ (Nat.le_of_ble_eq_true rfl) k_o h dX6_load_55 (fun M6 _ _ h B => ?_)
          have o_M6 := B.2.2
          refine lv_aload_n C.1 C.2.1 dX6_load_58 rfl (lv_at hl 0 rfl) ?_
          refine lv_aload_n C.1 C.2.1 dX6_load_59 rfl (lv_at hl 1 rfl) ?_
          refine gf_X6_39 C B k_o dX6_load_60 ?_
          refine gf_X6_162 C B (ko_X6_5 k_o) dX6_load_63 ?_
          refine cl_X1_copyFields C hl.1 B q_627 ⟨Nat.le_of_ble_eq_true rfl, Nat.le_of_ble_eq_true rfl⟩ ⟨Nat.zero_le _, Nat.zero_le _⟩ (Nat.le_of_ble_eq_true rfl) k_x1 (ko_X5_0 (ko_X6_5 k_o)) h dX6_load_66 (fun M7 _ _ h B => ?_)
          have o_M7 := B.2.2
          refine lv_aload_n C.1 C.2.1 dX6_load_69 rfl (lv_at hl 0 rfl) ?_
          refine cl_X1_allSubCount C hl.1 B q_628 ⟨Nat.le_of_ble_eq_true rfl, Nat.le_of_ble_eq_true rfl⟩ ⟨Nat.zero_le _, Nat.zero_le _⟩ (Nat.le_of_ble_eq_true rfl) k_x1 h dX6_load_70 (fun x8 r_x8 _ _ h B => ?_)
          exact jr_iret C B hr hlocks r_x8 h dX6_load_73
      · refine jr_ldc (n := -1000003) C q_626 (by decide) dX6_load_40 ?_
        exact jr_iret C B hr hlocks (jkc rfl) h dX6_load_42
theorem cl_X6_load {p : Program} {l : Launch} {e : Env} {R : Room} {s : State} {m : MethodId} {args : Array Value} {below : List Frame} {meth : Method} {c : Code} {H : Heap} {locs : List Loc} {cells slots : Nat} {Q : State → Prop} {cc : ByteArray} {nL : Nat} {own : String} {G : jG} {H0 : Heap} {pc idx : Nat} {ls : Array Slot} {rest : List Value} {N : Nat} {M : jM} {o a1 a2 : Int} {k : Int → jM → Prop} (C : Cx G p s args m c cc nL own) (hl : ls.size = nL) (B : Hp G M H0 H locs) (q1 : Cond.methodLink own idx yX6_load ∈ tb) (hR : (rmm 7 173).frames + 1 ≤ R.frames ∧ 8 + (4 + 11) + (rmm 7 173).locals ≤ R.locals) (hcs : cells ≤ R.cells ∧ slots ≤ R.slots) (hW : (rest.map fun v => v.category).sum ≤ 8) (k_o : jK o = 7) (r_a1 : jR a1) (r_a2 : jR a2) (h : w_X6_load N M o a1 a2 k) (hdg : decode cc pc = .ok (.invokevirtual idx, 3)) (kk : ∀ (r : Int) (M' : jM), jR r → ∀ (H1 : Heap) (locs1 : List Loc), k r M' → Hp G M' H0 H1 locs1 → W p l e R s m args below meth c H1 locs1 cells slots Q (F0 m (pc + 3) ls (.int (jI r) :: rest))) : W p l e R s m args below meth c H locs cells slots Q (F0 m pc ls (.int (jI a2) :: .int (jI a1) :: .ref (jD G o) :: rest)) :=
  jr_callI B (jr_runV (o := o) (As := [.int (jI a1), .int (jI a2)]) (n := 2) C hl B (m_X6_load B.2.2 k_o r_a1 r_a2 h) (jE7 k_o) (by omega) rfl q1 q_623 q_624 q_625 q_1 ⟨by decide, by decide, by decide +kernel⟩ rfl ⟨rfl, rfl⟩ hR hcs rfl hW hdg) (fun r M' H1 locs1 hr hk B1 => kk r M' hr H1 locs1 hk B1)
def w_X6_associate (N : Nat) (M : jM) (o : Int) (a1 : Int) (a2 : Int) (k : Int → jM → Prop) : Prop := (w_X6_isBelow a1 4 (fun x1 => (if x1 = 0 then (k (-1000001) M) else (w_X6_remember N M o (fun M2 => (jB a1 4 ∧ jL (jU M2 ((o + 1) + 42) a1 a2) (fun M3 => (w_X4_associatedCount N M3 (o + 1) (fun x4 => (k x4 M3))))))))))
set_option maxHeartbeats 4000000 in
set_option maxRecDepth 100000 in
theorem m_X6_associate {l : Launch} {G : jG} {N : Nat} {M : jM} {o a1 a2 : Int} {k : Int → jM → Prop} (o_M : jOK M) (k_o : jK o = 7) (r_a1 : jR a1) (z_a2 : a2 = 0 ∨ a2 = 1) (h : w_X6_associate N M o a1 a2 k) : Met l yX6_associate (wsG yX6_associate cX6_associate 3 (some .int)) (rmm 5 124) (jPc G M [.ref (jD G o), .int (jI a1), .int (jI a2)]) (qI G k) 0 0 (gA G) := by
  refine jm_start RX6 rfl (by decide) (Nat.le_of_ble_eq_true rfl) o_M ?_
  intro p e s m args below meth c ls C hr hlocks hl B
  have hl : lv_has ls 3 [(0, .ref (jD G o)), (1, .int (jI a1)), (2, .int (jI a2))] := hl
  unfold w_X6_associate at h
  refine lv_iload_n C.1 C.2.1 dX6_associate_0 rfl (lv_at hl 1 rfl) ?_
  refine jr_iconst C dX6_associate_1 ?_
  refine cl_X6_isBelow C hl.1 B q_233 ⟨Nat.le_of_ble_eq_true rfl, Nat.le_of_ble_eq_true rfl⟩ ⟨Nat.zero_le _, Nat.zero_le _⟩ (Nat.le_of_ble_eq_true rfl) r_a1 (jkc rfl) h dX6_associate_2 (fun x1 z_x1 _ _ h B => ?_)
  refine jr_if_ne (tgt := 11) C (zR z_x1) h dX6_associate_5 (by decide) (fun hc5 h => ?_) (fun hc5 h => ?_)
  · refine jr_ldc (n := -1000001) C q_236 (by decide) dX6_associate_8 ?_
    exact jr_iret C B hr hlocks (jkc rfl) h dX6_associate_10
  · refine lv_aload_n C.1 C.2.1 dX6_associate_11 rfl (lv_at hl 0 rfl) ?_
    refine cl_X6_remember C hl.1 B q_449 ⟨Nat.le_of_ble_eq_true rfl, Nat.le_of_ble_eq_true rfl⟩ ⟨Nat.zero_le _, Nat.zero_le _⟩ (Nat.le_of_ble_eq_true rfl) k_o h dX6_associate_12 (fun M2 _ _ h B => ?_)
    have o_M2 := B.2.2
    refine lv_aload_n C.1 C.2.1 dX6_associate_15 rfl (lv_at hl 0 rfl) ?_
    refine gf_X6_12 C B k_o dX6_associate_16 ?_
    refine gf_X6_150 C B (ko_X6_0 k_o) dX6_associate_19 ?_
    refine lv_iload_n C.1 C.2.1 dX6_associate_22 rfl (lv_at hl 1 rfl) ?_
    refine lv_iload_n C.1 C.2.1 dX6_associate_23 rfl (lv_at hl 2 rfl) ?_
    refine jr_zast C B 4 (jk1 (ko_X4_2 (ko_X6_0 k_o)) rfl) (jk2 (ko_X4_2 (ko_X6_0 k_o)) rfl) r_a1 z_a2 h dX6_associate_24 (fun M3 _ _ h B => ?_)
    have o_M3 := B.2.2
    refine lv_aload_n C.1 C.2.1 dX6_associate_25 rfl (lv_at hl 0 rfl) ?_
    refine gf_X6_12 C B k_o dX6_associate_26 ?_
    refine cl_X4_associatedCount C hl.1 B q_675 ⟨Nat.le_of_ble_eq_true rfl, Nat.le_of_ble_eq_true rfl⟩ ⟨Nat.zero_le _, Nat.zero_le _⟩ (Nat.le_of_ble_eq_true rfl) (ko_X6_0 k_o) h dX6_associate_29 (fun x4 r_x4 _ _ h B => ?_)
    exact jr_iret C B hr hlocks r_x4 h dX6_associate_32
theorem cl_X6_associate {p : Program} {l : Launch} {e : Env} {R : Room} {s : State} {m : MethodId} {args : Array Value} {below : List Frame} {meth : Method} {c : Code} {H : Heap} {locs : List Loc} {cells slots : Nat} {Q : State → Prop} {cc : ByteArray} {nL : Nat} {own : String} {G : jG} {H0 : Heap} {pc idx : Nat} {ls : Array Slot} {rest : List Value} {N : Nat} {M : jM} {o a1 a2 : Int} {k : Int → jM → Prop} (C : Cx G p s args m c cc nL own) (hl : ls.size = nL) (B : Hp G M H0 H locs) (q1 : Cond.methodLink own idx yX6_associate ∈ tb) (hR : (rmm 5 124).frames + 1 ≤ R.frames ∧ 8 + (3 + 11) + (rmm 5 124).locals ≤ R.locals) (hcs : cells ≤ R.cells ∧ slots ≤ R.slots) (hW : (rest.map fun v => v.category).sum ≤ 8) (k_o : jK o = 7) (r_a1 : jR a1) (z_a2 : a2 = 0 ∨ a2 = 1) (h : w_X6_associate N M o a1 a2 k) (hdg : decode cc pc = .ok (.invokevirtual idx, 3)) (kk : ∀ (r : Int) (M' : jM), jR r → ∀ (H1 : Heap) (locs1 : List Loc), k r M' → Hp G M' H0 H1 locs1 → W p l e R s m args below meth c H1 locs1 cells slots Q (F0 m (pc + 3) ls (.int (jI r) :: rest))) : W p l e R s m args below meth c H locs cells slots Q (F0 m pc ls (.int (jI a2) :: .int (jI a1) :: .ref (jD G o) :: rest)) :=
  jr_callI B (jr_runV (o := o) (As := [.int (jI a1), .int (jI a2)]) (n := 2) C hl B (m_X6_associate B.2.2 k_o r_a1 z_a2 h) (jE7 k_o) (by omega) rfl q1 q_672 q_673 q_674 q_1 ⟨by decide, by decide, by decide +kernel⟩ rfl ⟨rfl, rfl⟩ hR hcs rfl hW hdg) (fun r M' H1 locs1 hr hk B1 => kk r M' hr H1 locs1 hk B1)
def w_X6_define (N : Nat) (M : jM) (o : Int) (a1 : Int) (a2 : Int) (a3 : Int) (a4 : Int) (k : Int → jM → Prop) : Prop := (w_X6_isBelow a1 6 (fun x1 => (if x1 = 0 then (k (-1000001) M) else (w_X6_isBelow a3 4 (fun x2 => (if x2 = 0 then (k (-1000001) M) else (w_X6_isBelow a4 4 (fun x3 => (if x3 = 0 then (k (-1000001) M) else (if a2 < 0 then (k (-1000002) M) else (if a2 ≤ 4 then (jB a1 6 ∧ (jL (M ((o + 1) + 43) a1) (fun x5 => (w_X6_remember N M o (fun M6 => (w_X4_setColumn M6 (o + 1) a1 a2 a3 a4 (fun M7 => (k x5 M7)))))))) else (k (-1000002) M))))))))))))
set_option maxHeartbeats 4000000 in
set_option maxRecDepth 100000 in
theorem m_X6_define {l : Launch} {G : jG} {N : Nat} {M : jM} {o a1 a2 a3 a4 : Int} {k : Int → jM → Prop} (o_M : jOK M) (k_o : jK o = 7) (r_a1 : jR a1) (r_a2 : jR a2) (r_a3 : jR a3) (r_a4 : jR a4) (h : w_X6_define N M o a1 a2 a3 a4 k) : Met l yX6_define (wsG yX6_define cX6_define 6 (some .int)) (rmm 5 124) (jPc G M [.ref (jD G o), .int (jI a1), .int (jI a2), .int (jI a3), .int (jI a4)]) (qI G k) 0 0 (gA G) := by
  refine jm_start RX6 rfl (by decide) (Nat.le_of_ble_eq_true rfl) o_M ?_
  intro p e s m args below meth c ls C hr hlocks hl B
  have hl : lv_has ls 6 [(0, .ref (jD G o)), (1, .int (jI a1)), (2, .int (jI a2)), (3, .int (jI a3)), (4, .int (jI a4))] := hl
  unfold w_X6_define at h
  refine lv_iload_n C.1 C.2.1 dX6_define_0 rfl (lv_at hl 1 rfl) ?_
  refine jr_bipush C dX6_define_1 (by decide) ?_
  refine cl_X6_isBelow C hl.1 B q_233 ⟨Nat.le_of_ble_eq_true rfl, Nat.le_of_ble_eq_true rfl⟩ ⟨Nat.zero_le _, Nat.zero_le _⟩ (Nat.le_of_ble_eq_true rfl) r_a1 (jkc rfl) h dX6_define_3 (fun x1 z_x1 _ _ h B => ?_)
  refine jr_if_eq (tgt := 26) C (zR z_x1) h dX6_define_6 (by decide) (fun hc6 h => ?_) (fun hc6 h => ?_)
  · refine jr_ldc (n := -1000001) C q_236 (by decide) dX6_define_26 ?_
    exact jr_iret C B hr hlocks (jkc rfl) h dX6_define_28
  · refine lv_iload_n C.1 C.2.1 dX6_define_9 rfl (lv_at hl 3 rfl) ?_
    refine jr_iconst C dX6_define_10 ?_
    refine cl_X6_isBelow C hl.1 B q_233 ⟨Nat.le_of_ble_eq_true rfl, Nat.le_of_ble_eq_true rfl⟩ ⟨Nat.zero_le _, Nat.zero_le _⟩ (Nat.le_of_ble_eq_true rfl) r_a3 (jkc rfl) h dX6_define_11 (fun x2 z_x2 _ _ h B => ?_)
    refine jr_if_eq (tgt := 26) C (zR z_x2) h dX6_define_14 (by decide) (fun hc14 h => ?_) (fun hc14 h => ?_)
    · refine jr_ldc (n := -1000001) C q_236 (by decide) dX6_define_26 ?_
      exact jr_iret C B hr hlocks (jkc rfl) h dX6_define_28
    · refine lv_iload C.1 C.2.1 dX6_define_17 (lv_at hl 4 rfl) ?_
      refine jr_iconst C dX6_define_19 ?_
      refine cl_X6_isBelow C hl.1 B q_233 ⟨Nat.le_of_ble_eq_true rfl, Nat.le_of_ble_eq_true rfl⟩ ⟨Nat.zero_le _, Nat.zero_le _⟩ (Nat.le_of_ble_eq_true rfl) r_a4 (jkc rfl) h dX6_define_20 (fun x3 z_x3 _ _ h B => ?_)
      refine jr_if_ne (tgt := 29) C (zR z_x3) h dX6_define_23 (by decide) (fun hc23 h => ?_) (fun hc23 h => ?_)
      · refine jr_ldc (n := -1000001) C q_236 (by decide) dX6_define_26 ?_
        exact jr_iret C B hr hlocks (jkc rfl) h dX6_define_28
      · refine lv_iload_n C.1 C.2.1 dX6_define_29 rfl (lv_at hl 2 rfl) ?_
        refine jr_if_lt (tgt := 38) C r_a2 h dX6_define_30 (by decide) (fun hc30 h => ?_) (fun hc30 h => ?_)
        · refine jr_ldc (n := -1000002) C q_237 (by decide) dX6_define_38 ?_
          exact jr_iret C B hr hlocks (jkc rfl) h dX6_define_40
        · refine lv_iload_n C.1 C.2.1 dX6_define_33 rfl (lv_at hl 2 rfl) ?_
          refine jr_iconst C dX6_define_34 ?_
          refine jr_icmp_le (tgt := 41) C r_a2 (jkc rfl) h dX6_define_35 (by decide) (fun hc35 h => ?_) (fun hc35 h => ?_)
          · refine lv_aload_n C.1 C.2.1 dX6_define_41 rfl (lv_at hl 0 rfl) ?_
            refine gf_X6_12 C B k_o dX6_define_42 ?_
            refine gf_X6_177 C B (ko_X6_0 k_o) dX6_define_45 ?_
            refine lv_iload_n C.1 C.2.1 dX6_define_48 rfl (lv_at hl 1 rfl) ?_
            obtain ⟨g4, h⟩ := h
            refine jr_iald C B 6 (jk1 (ko_X4_3 (ko_X6_0 k_o)) rfl) (jk2 (ko_X4_3 (ko_X6_0 k_o)) rfl) r_a1 g4 dX6_define_49 ?_
            refine jr_nm h (o_M ((o + 1) + 43) a1).1 (fun x5 h r_x5 => ?_)
            refine lv_istore (lv' := [(5, .int (jI x5)), (0, .ref (jD G o)), (1, .int (jI a1)), (2, .int (jI a2)), (3, .int (jI a3)), (4, .int (jI a4))]) C.1 C.2.1 dX6_define_50 hl (by decide) rfl (fun ls hl => ?_)
            refine lv_aload_n C.1 C.2.1 dX6_define_52 rfl (lv_at hl 1 rfl) ?_
            refine cl_X6_remember C hl.1 B q_449 ⟨Nat.le_of_ble_eq_true rfl, Nat.le_of_ble_eq_true rfl⟩ ⟨Nat.zero_le _, Nat.zero_le _⟩ (Nat.le_of_ble_eq_true rfl) k_o h dX6_define_53 (fun M6 _ _ h B => ?_)
            have o_M6 := B.2.2
            refine lv_aload_n C.1 C.2.1 dX6_define_56 rfl (lv_at hl 1 rfl) ?_
            refine gf_X6_12 C B k_o dX6_define_57 ?_
            refine lv_iload_n C.1 C.2.1 dX6_define_60 rfl (lv_at hl 2 rfl) ?_
            refine lv_iload_n C.1 C.2.1 dX6_define_61 rfl (lv_at hl 3 rfl) ?_
            refine lv_iload_n C.1 C.2.1 dX6_define_62 rfl (lv_at hl 4 rfl) ?_
            refine lv_iload C.1 C.2.1 dX6_define_63 (lv_at hl 5 rfl) ?_
            refine cl_X4_setColumn C hl.1 B q_683 ⟨Nat.le_of_ble_eq_true rfl, Nat.le_of_ble_eq_true rfl⟩ ⟨Nat.zero_le _, Nat.zero_le _⟩ (Nat.le_of_ble_eq_true rfl) (ko_X6_0 k_o) r_a1 r_a2 r_a3 r_a4 h dX6_define_65 (fun M7 _ _ h B => ?_)
            have o_M7 := B.2.2
            refine lv_iload C.1 C.2.1 dX6_define_68 (lv_at hl 0 rfl) ?_
            exact jr_iret C B hr hlocks r_x5 h dX6_define_70
          · refine jr_ldc (n := -1000002) C q_237 (by decide) dX6_define_38 ?_
            exact jr_iret C B hr hlocks (jkc rfl) h dX6_define_40
theorem cl_X6_define {p : Program} {l : Launch} {e : Env} {R : Room} {s : State} {m : MethodId} {args : Array Value} {below : List Frame} {meth : Method} {c : Code} {H : Heap} {locs : List Loc} {cells slots : Nat} {Q : State → Prop} {cc : ByteArray} {nL : Nat} {own : String} {G : jG} {H0 : Heap} {pc idx : Nat} {ls : Array Slot} {rest : List Value} {N : Nat} {M : jM} {o a1 a2 a3 a4 : Int} {k : Int → jM → Prop} (C : Cx G p s args m c cc nL own) (hl : ls.size = nL) (B : Hp G M H0 H locs) (q1 : Cond.methodLink own idx yX6_define ∈ tb) (hR : (rmm 5 124).frames + 1 ≤ R.frames ∧ 8 + (6 + 11) + (rmm 5 124).locals ≤ R.locals) (hcs : cells ≤ R.cells ∧ slots ≤ R.slots) (hW : (rest.map fun v => v.category).sum ≤ 8) (k_o : jK o = 7) (r_a1 : jR a1) (r_a2 : jR a2) (r_a3 : jR a3) (r_a4 : jR a4) (h : w_X6_define N M o a1 a2 a3 a4 k) (hdg : decode cc pc = .ok (.invokevirtual idx, 3)) (kk : ∀ (r : Int) (M' : jM), jR r → ∀ (H1 : Heap) (locs1 : List Loc), k r M' → Hp G M' H0 H1 locs1 → W p l e R s m args below meth c H1 locs1 cells slots Q (F0 m (pc + 3) ls (.int (jI r) :: rest))) : W p l e R s m args below meth c H locs cells slots Q (F0 m pc ls (.int (jI a4) :: .int (jI a3) :: .int (jI a2) :: .int (jI a1) :: .ref (jD G o) :: rest)) :=
  jr_callI B (jr_runV (o := o) (As := [.int (jI a1), .int (jI a2), .int (jI a3), .int (jI a4)]) (n := 4) C hl B (m_X6_define B.2.2 k_o r_a1 r_a2 r_a3 r_a4 h) (jE7 k_o) (by omega) rfl q1 q_680 q_681 q_682 q_1 ⟨by decide, by decide, by decide +kernel⟩ rfl ⟨rfl, rfl⟩ hR hcs rfl hW hdg) (fun r M' H1 locs1 hr hk B1 => kk r M' hr H1 locs1 hk B1)
def w_X6_passes (a1 : Int) (a2 : Int) (a3 : Int) (k : Int → Prop) : Prop := (if a2 = 0 then (if a1 < a3 then (k 1) else (k 0)) else (if a2 = 1 then (if a1 = a3 then (k 1) else (k 0)) else (if a1 ≤ a3 then (k 0) else (k 1))))
set_option maxHeartbeats 4000000 in
set_option maxRecDepth 100000 in
theorem m_X6_passes {l : Launch} {G : jG} {M : jM} {a1 a2 a3 : Int} {k : Int → Prop} (o_M : jOK M) (r_a1 : jR a1) (r_a2 : jR a2) (r_a3 : jR a3) (h : w_X6_passes a1 a2 a3 k) : Met l yX6_passes (wsG yX6_passes cX6_passes 3 (some .boolean)) (rmm 0 0) (jPc G M [.int (jI a1), .int (jI a2), .int (jI a3)]) (qZ G (fun r M' => M' = M ∧ k r)) 0 0 (gA G) := by
  refine jm_start RX6 rfl (by decide) (Nat.le_of_ble_eq_true rfl) o_M ?_
  intro p e s m args below meth c ls C hr hlocks hl B
  have hl : lv_has ls 3 [(0, .int (jI a1)), (1, .int (jI a2)), (2, .int (jI a3))] := hl
  unfold w_X6_passes at h
  refine lv_iload_n C.1 C.2.1 dX6_passes_0 rfl (lv_at hl 1 rfl) ?_
  by_cases hs1_0 : a2 = 0
  · rw [if_pos hs1_0] at h
    refine jr_lookup (off := 27) (tgt := 28) C r_a2 (by decide) (by rw [hs1_0]; decide) dX6_passes_1 (by decide) ?_
    refine lv_iload_n C.1 C.2.1 dX6_passes_28 rfl (lv_at hl 0 rfl) ?_
    refine lv_iload_n C.1 C.2.1 dX6_passes_29 rfl (lv_at hl 2 rfl) ?_
    refine jr_icmp_ge (tgt := 37) C r_a1 r_a3 h dX6_passes_30 (by decide) (fun hc30 h => ?_) (fun hc30 h => ?_)
    · refine jr_iconst C dX6_passes_33 ?_
      refine lv_goto (tgt := 38) C.1 C.2.1 dX6_passes_34 (by decide) ?_
      exact jr_zret C B hr hlocks (Or.inr rfl) ⟨rfl, h⟩ dX6_passes_38
    · refine jr_iconst C dX6_passes_37 ?_
      exact jr_zret C B hr hlocks (Or.inl rfl) ⟨rfl, h⟩ dX6_passes_38
  · rw [if_neg hs1_0] at h
    by_cases hs1_1 : a2 = 1
    · rw [if_pos hs1_1] at h
      refine jr_lookup (off := 38) (tgt := 39) C r_a2 (by decide) (by rw [hs1_1]; decide) dX6_passes_1 (by decide) ?_
      refine lv_iload_n C.1 C.2.1 dX6_passes_39 rfl (lv_at hl 0 rfl) ?_
      refine lv_iload_n C.1 C.2.1 dX6_passes_40 rfl (lv_at hl 2 rfl) ?_
      refine jr_icmp_ne (tgt := 48) C r_a1 r_a3 h dX6_passes_41 (by decide) (fun hc41 h => ?_) (fun hc41 h => ?_)
      · refine jr_iconst C dX6_passes_44 ?_
        refine lv_goto (tgt := 49) C.1 C.2.1 dX6_passes_45 (by decide) ?_
        exact jr_zret C B hr hlocks (Or.inr rfl) ⟨rfl, h⟩ dX6_passes_49
      · refine jr_iconst C dX6_passes_48 ?_
        exact jr_zret C B hr hlocks (Or.inl rfl) ⟨rfl, h⟩ dX6_passes_49
    · rw [if_neg hs1_1] at h
      refine jr_lookup (off := 49) (tgt := 50) C r_a2 (by decide) (by simp [Op.lookupswitch.offset, hs1_0, Ne.symm hs1_0, hs1_1, Ne.symm hs1_1]) dX6_passes_1 (by decide) ?_
      refine lv_iload_n C.1 C.2.1 dX6_passes_50 rfl (lv_at hl 0 rfl) ?_
      refine lv_iload_n C.1 C.2.1 dX6_passes_51 rfl (lv_at hl 2 rfl) ?_
      refine jr_icmp_le (tgt := 59) C r_a1 r_a3 h dX6_passes_52 (by decide) (fun hc52 h => ?_) (fun hc52 h => ?_)
      · refine jr_iconst C dX6_passes_59 ?_
        exact jr_zret C B hr hlocks (Or.inl rfl) ⟨rfl, h⟩ dX6_passes_60
      · refine jr_iconst C dX6_passes_55 ?_
        refine lv_goto (tgt := 60) C.1 C.2.1 dX6_passes_56 (by decide) ?_
        exact jr_zret C B hr hlocks (Or.inr rfl) ⟨rfl, h⟩ dX6_passes_60
theorem cl_X6_passes {p : Program} {l : Launch} {e : Env} {R : Room} {s : State} {m : MethodId} {args : Array Value} {below : List Frame} {meth : Method} {c : Code} {H : Heap} {locs : List Loc} {cells slots : Nat} {Q : State → Prop} {cc : ByteArray} {nL : Nat} {own : String} {G : jG} {H0 : Heap} {pc idx : Nat} {ls : Array Slot} {rest : List Value} {M : jM} {a1 a2 a3 : Int} {k : Int → Prop} (C : Cx G p s args m c cc nL own) (hl : ls.size = nL) (B : Hp G M H0 H locs) (q1 : Cond.methodLink own idx yX6_passes ∈ tb) (hR : (rmm 0 0).frames + 1 ≤ R.frames ∧ 8 + (3 + 11) + (rmm 0 0).locals ≤ R.locals) (hcs : cells ≤ R.cells ∧ slots ≤ R.slots) (hW : (rest.map fun v => v.category).sum ≤ 8) (r_a1 : jR a1) (r_a2 : jR a2) (r_a3 : jR a3) (h : w_X6_passes a1 a2 a3 k) (hdg : decode cc pc = .ok (.invokestatic idx, 3)) (kk : ∀ (r : Int), (r = 0 ∨ r = 1) → ∀ (H1 : Heap) (locs1 : List Loc), k r → Hp G M H0 H1 locs1 → W p l e R s m args below meth c H1 locs1 cells slots Q (F0 m (pc + 3) ls (.int (jI r) :: rest))) : W p l e R s m args below meth c H locs cells slots Q (F0 m pc ls (.int (jI a3) :: .int (jI a2) :: .int (jI a1) :: rest)) :=
  jr_callZ B (jr_runS (As := [.int (jI a1), .int (jI a2), .int (jI a3)]) (n := 3) C hl B (m_X6_passes B.2.2 r_a1 r_a2 r_a3 h) q1 q_707 q_708 q_1 ⟨by decide, by decide, by decide +kernel⟩ rfl ⟨rfl, rfl⟩ hR hcs rfl hW hdg) (fun r M' H1 locs1 hr hk B1 => by obtain ⟨rfl, hk⟩ := hk; exact kk r hr H1 locs1 hk B1)
def lp_X6_isSelected_6 (o : Int) (a1 : Int) (a2 : Int) (M : jM) (kx6 : Int → Prop) : Nat → Int → Int → Prop
  | 0, _, _ => False
  | n + 1, x1, x2 => (if x2 < (M (o + 246) 1) then (w_X2_at M (o + 246) x2 (fun x4 => (w_X6_passes x4 a1 a2 (fun x5 => (if x5 = 0 then (jL (jW (x2 + 1)) (fun x6 => (lp_X6_isSelected_6 o a1 a2 M kx6 n x1 x6))) else (jL (jW (x1 + 1)) (fun x7 => (jL (jW (x2 + 1)) (fun x8 => (lp_X6_isSelected_6 o a1 a2 M kx6 n x7 x8)))))))))) else (kx6 x1))
def w_X6_isSelected (N : Nat) (M : jM) (o : Int) (a1 : Int) (a2 : Int) (a3 : Int) (k : Int → Prop) : Prop := (lp_X6_isSelected_6 o a1 a2 M (fun (x3 : Int) => (if x3 ≤ 0 then (k 0) else (if a3 = 0 then (k 1) else (if x3 = (M (o + 246) 1) then (k 1) else (k 0))))) N 0 0)
set_option maxHeartbeats 4000000 in
set_option maxRecDepth 100000 in
theorem m_X6_isSelected {l : Launch} {G : jG} {N : Nat} {M : jM} {o a1 a2 a3 : Int} {k : Int → Prop} (o_M : jOK M) (k_o : jK o = 7) (r_a1 : jR a1) (r_a2 : jR a2) (z_a3 : a3 = 0 ∨ a3 = 1) (h : w_X6_isSelected N M o a1 a2 a3 k) : Met l yX6_isSelected (wsG yX6_isSelected cX6_isSelected 6 (some .boolean)) (rmm 2 42) (jPc G M [.ref (jD G o), .int (jI a1), .int (jI a2), .int (jI a3)]) (qZ G (fun r M' => M' = M ∧ k r)) 0 0 (gA G) := by
  refine jm_start RX6 rfl (by decide) (Nat.le_of_ble_eq_true rfl) o_M ?_
  intro p e s m args below meth c ls C hr hlocks hl B
  have hl : lv_has ls 6 [(0, .ref (jD G o)), (1, .int (jI a1)), (2, .int (jI a2)), (3, .int (jI a3))] := hl
  unfold w_X6_isSelected at h
  refine jr_iconst C dX6_isSelected_0 ?_
  refine lv_istore (lv' := [(4, .int (jI 0)), (0, .ref (jD G o)), (1, .int (jI a1)), (2, .int (jI a2)), (3, .int (jI a3))]) C.1 C.2.1 dX6_isSelected_1 hl (by decide) rfl (fun ls hl => ?_)
  refine jr_iconst C dX6_isSelected_3 ?_
  refine lv_istore (lv' := [(5, .int (jI 0)), (4, .int (jI 0)), (0, .ref (jD G o)), (1, .int (jI a1)), (2, .int (jI a2)), (3, .int (jI a3))]) C.1 C.2.1 dX6_isSelected_4 hl (by decide) rfl (fun ls hl => ?_)
  obtain ⟨kx6, hkx6, h⟩ : ∃ kx6 : Int → Prop, (∀ (x3 : Int) (H : Heap) (locs : List Loc) (ls : Array Slot), kx6 x3 → jR x3 → Hp G M s.heap H locs → lv_has ls 6 [(4, .int (jI x3)), (0, .ref (jD G o)), (3, .int (jI a3))] → W p l e (rmm 2 42) s m args below meth c H locs 0 0 (MQ below (qZ G (fun r M' => M' = M ∧ k r)) args s 0 0 (gA G)) (F0 m 44 ls [])) ∧ lp_X6_isSelected_6 o a1 a2 M kx6 N 0 0 := by
    refine ⟨_, ?_, h⟩
    intro x3 H locs ls h r_x3 B hl
    refine lv_iload C.1 C.2.1 dX6_isSelected_44 (lv_at hl 0 rfl) ?_
    refine jr_if_le (tgt := 69) C r_x3 h dX6_isSelected_46 (by decide) (fun hc46 h => ?_) (fun hc46 h => ?_)
    · refine jr_iconst C dX6_isSelected_69 ?_
      exact jr_zret C B hr hlocks (Or.inl rfl) ⟨rfl, h⟩ dX6_isSelected_70
    · refine lv_iload_n C.1 C.2.1 dX6_isSelected_49 rfl (lv_at hl 2 rfl) ?_
      refine jr_if_eq (tgt := 65) C (zR z_a3) h dX6_isSelected_50 (by decide) (fun hc50 h => ?_) (fun hc50 h => ?_)
      · refine jr_iconst C dX6_isSelected_65 ?_
        refine lv_goto (tgt := 70) C.1 C.2.1 dX6_isSelected_66 (by decide) ?_
        exact jr_zret C B hr hlocks (Or.inr rfl) ⟨rfl, h⟩ dX6_isSelected_70
      · refine lv_iload C.1 C.2.1 dX6_isSelected_53 (lv_at hl 0 rfl) ?_
        refine lv_aload_n C.1 C.2.1 dX6_isSelected_55 rfl (lv_at hl 1 rfl) ?_
        refine gf_X6_46 C B k_o dX6_isSelected_56 ?_
        refine gf_X6_211 C B (ko_X6_6 k_o) dX6_isSelected_59 ?_
        refine jr_icmp_ne (tgt := 69) C r_x3 (o_M (o + 246) 1).1 h dX6_isSelected_62 (by decide) (fun hc62 h => ?_) (fun hc62 h => ?_)
        · refine jr_iconst C dX6_isSelected_65 ?_
          refine lv_goto (tgt := 70) C.1 C.2.1 dX6_isSelected_66 (by decide) ?_
          exact jr_zret C B hr hlocks (Or.inr rfl) ⟨rfl, h⟩ dX6_isSelected_70
        · refine jr_iconst C dX6_isSelected_69 ?_
          exact jr_zret C B hr hlocks (Or.inl rfl) ⟨rfl, h⟩ dX6_isSelected_70
  have hL6 : ∀ (n : Nat) (x1 : Int) (x2 : Int) (H : Heap) (locs : List Loc) (ls : Array Slot), lp_X6_isSelected_6 o a1 a2 M kx6 n x1 x2 → jR x1 → jR x2 → Hp G M s.heap H locs → lv_has ls 6 [(4, .int (jI x1)), (5, .int (jI x2)), (0, .ref (jD G o)), (1, .int (jI a1)), (2, .int (jI a2)), (3, .int (jI a3))] → W p l e (rmm 2 42) s m args below meth c H locs 0 0 (MQ below (qZ G (fun r M' => M' = M ∧ k r)) args s 0 0 (gA G)) (F0 m 6 ls []) := by
    intro n
    induction n with
    | zero => intro x1 x2 H locs ls h; exact (show False from h).elim
    | succ n ih6 =>
      intro x1 x2 H locs ls h r_x1 r_x2 B hl
      rw [lp_X6_isSelected_6] at h
      refine lv_iload C.1 C.2.1 dX6_isSelected_6 (lv_at hl 1 rfl) ?_
      refine lv_aload_n C.1 C.2.1 dX6_isSelected_8 rfl (lv_at hl 2 rfl) ?_
      refine gf_X6_46 C B k_o dX6_isSelected_9 ?_
      refine gf_X6_211 C B (ko_X6_6 k_o) dX6_isSelected_12 ?_
      refine jr_icmp_ge (tgt := 44) C r_x2 (o_M (o + 246) 1).1 h dX6_isSelected_15 (by decide) (fun hc15 h => ?_) (fun hc15 h => ?_)
      · refine lv_aload_n C.1 C.2.1 dX6_isSelected_18 rfl (lv_at hl 2 rfl) ?_
        refine gf_X6_46 C B k_o dX6_isSelected_19 ?_
        refine lv_iload C.1 C.2.1 dX6_isSelected_22 (lv_at hl 1 rfl) ?_
        refine cl_X2_at C hl.1 B q_377 ⟨Nat.le_of_ble_eq_true rfl, Nat.le_of_ble_eq_true rfl⟩ ⟨Nat.zero_le _, Nat.zero_le _⟩ (Nat.le_of_ble_eq_true rfl) (ko_X6_6 k_o) r_x2 h dX6_isSelected_24 (fun x4 r_x4 _ _ h B => ?_)
        refine lv_iload_n C.1 C.2.1 dX6_isSelected_27 rfl (lv_at hl 3 rfl) ?_
        refine lv_iload_n C.1 C.2.1 dX6_isSelected_28 rfl (lv_at hl 4 rfl) ?_
        refine cl_X6_passes C hl.1 B q_706 ⟨Nat.le_of_ble_eq_true rfl, Nat.le_of_ble_eq_true rfl⟩ ⟨Nat.zero_le _, Nat.zero_le _⟩ (Nat.le_of_ble_eq_true rfl) r_x4 r_a1 r_a2 h dX6_isSelected_29 (fun x5 z_x5 _ _ h B => ?_)
        refine jr_if_eq (tgt := 38) C (zR z_x5) h dX6_isSelected_32 (by decide) (fun hc32 h => ?_) (fun hc32 h => ?_)
        · refine jr_iinc (k := 1) (lv' := fun x6 => [(5, .int (jI x6)), (4, .int (jI x1)), (0, .ref (jD G o)), (1, .int (jI a1)), (2, .int (jI a2)), (3, .int (jI a3))]) C h hl rfl (by decide) (fun _ => rfl) dX6_isSelected_38 (fun x6 h r_x6 ls hl => ?_)
          refine lv_goto (tgt := 6) C.1 C.2.1 dX6_isSelected_41 (by decide) ?_
          exact ih6 _ _ _ _ _ h r_x1 r_x6 B (lv_sub hl [1, 0, 2, 3, 4, 5] rfl)
        · refine jr_iinc (k := 0) (lv' := fun x7 => [(4, .int (jI x7)), (5, .int (jI x2)), (0, .ref (jD G o)), (1, .int (jI a1)), (2, .int (jI a2)), (3, .int (jI a3))]) C h hl rfl (by decide) (fun _ => rfl) dX6_isSelected_35 (fun x7 h r_x7 ls hl => ?_)
          refine jr_iinc (k := 1) (lv' := fun x8 => [(5, .int (jI x8)), (4, .int (jI x7)), (0, .ref (jD G o)), (1, .int (jI a1)), (2, .int (jI a2)), (3, .int (jI a3))]) C h hl rfl (by decide) (fun _ => rfl) dX6_isSelected_38 (fun x8 h r_x8 ls hl => ?_)
          refine lv_goto (tgt := 6) C.1 C.2.1 dX6_isSelected_41 (by decide) ?_
          exact ih6 _ _ _ _ _ h r_x7 r_x8 B (lv_sub hl [1, 0, 2, 3, 4, 5] rfl)
      · exact hkx6 _ _ _ _ h r_x1 B (lv_sub hl [0, 2, 5] rfl)
  exact hL6 N _ _ _ _ _ h (jkc rfl) (jkc rfl) B (lv_sub hl [1, 0, 2, 3, 4, 5] rfl)
theorem cl_X6_isSelected {p : Program} {l : Launch} {e : Env} {R : Room} {s : State} {m : MethodId} {args : Array Value} {below : List Frame} {meth : Method} {c : Code} {H : Heap} {locs : List Loc} {cells slots : Nat} {Q : State → Prop} {cc : ByteArray} {nL : Nat} {own : String} {G : jG} {H0 : Heap} {pc idx : Nat} {ls : Array Slot} {rest : List Value} {N : Nat} {M : jM} {o a1 a2 a3 : Int} {k : Int → Prop} (C : Cx G p s args m c cc nL own) (hl : ls.size = nL) (B : Hp G M H0 H locs) (q1 : Cond.methodLink own idx yX6_isSelected ∈ tb) (hR : (rmm 2 42).frames + 1 ≤ R.frames ∧ 8 + (6 + 11) + (rmm 2 42).locals ≤ R.locals) (hcs : cells ≤ R.cells ∧ slots ≤ R.slots) (hW : (rest.map fun v => v.category).sum ≤ 8) (k_o : jK o = 7) (r_a1 : jR a1) (r_a2 : jR a2) (z_a3 : a3 = 0 ∨ a3 = 1) (h : w_X6_isSelected N M o a1 a2 a3 k) (hdg : decode cc pc = .ok (.invokevirtual idx, 3)) (kk : ∀ (r : Int), (r = 0 ∨ r = 1) → ∀ (H1 : Heap) (locs1 : List Loc), k r → Hp G M H0 H1 locs1 → W p l e R s m args below meth c H1 locs1 cells slots Q (F0 m (pc + 3) ls (.int (jI r) :: rest))) : W p l e R s m args below meth c H locs cells slots Q (F0 m pc ls (.int (jI a3) :: .int (jI a2) :: .int (jI a1) :: .ref (jD G o) :: rest)) :=
  jr_callZ B (jr_runV (o := o) (As := [.int (jI a1), .int (jI a2), .int (jI a3)]) (n := 3) C hl B (m_X6_isSelected B.2.2 k_o r_a1 r_a2 z_a3 h) (jE7 k_o) (by omega) rfl q1 q_704 qs_22 q_705 q_1 ⟨by decide, by decide, by decide +kernel⟩ rfl ⟨rfl, rfl⟩ hR hcs rfl hW hdg) (fun r M' H1 locs1 hr hk B1 => by obtain ⟨rfl, hk⟩ := hk; exact kk r hr H1 locs1 hk B1)
def lp_X6_select_62 (N : Nat) (o : Int) (a1 : Int) (a2 : Int) (a3 : Int) (a4 : Int) (a5 : Int) (kx62 : jM → Prop) : Nat → Int → jM → Prop
  | 0, _, _ => False
  | n + 1, x5, M6 => (if x5 < (M6 (o + 1) 1) then (jB x5 10 ∧ (jL (M6 ((o + 1) + 1) x5) (fun x11 => (w_X4_gather N M6 (o + 1) x11 a1 (o + 246) (fun M12 => (w_X6_isSelected N M12 o a2 a3 a4 (fun x13 => (if x13 = 0 then (jL (jW (x5 + 1)) (fun x14 => (lp_X6_select_62 N o a1 a2 a3 a4 a5 kx62 n x14 M12))) else (w_X4_setListed M12 (o + 1) a5 (M12 x11 0) 1 (fun M15 => (jL (jW (x5 + 1)) (fun x16 => (lp_X6_select_62 N o a1 a2 a3 a4 a5 kx62 n x16 M15))))))))))))) else (kx62 M6))
def w_X6_select (N : Nat) (M : jM) (o : Int) (a1 : Int) (a2 : Int) (a3 : Int) (a4 : Int) (a5 : Int) (k : Int → jM → Prop) : Prop := (w_X6_isBelow a1 6 (fun x1 => (if x1 = 0 then (k (-1000001) M) else (w_X6_isBelow a5 8 (fun x2 => (if x2 = 0 then (k (-1000001) M) else (if a2 < 0 then (k (-1000002) M) else (if a2 ≤ 2 then (if a3 < (-1000000) then (k (-1000002) M) else (if a3 ≤ 1000000 then (w_X6_remember N M o (fun M3 => (w_X4_emptyList N M3 (o + 1) a5 (fun M4 => (lp_X6_select_62 N o a1 a2 a3 a4 a5 (fun (M7 : jM) => (w_X4_listedCount N M7 (o + 1) a5 (fun x8 => (k x8 M7)))) N 0 M4))))) else (k (-1000002) M))) else (k (-1000002) M)))))))))
set_option maxHeartbeats 4000000 in
set_option maxRecDepth 100000 in
theorem m_X6_select {l : Launch} {G : jG} {N : Nat} {M : jM} {o a1 a2 a3 a4 a5 : Int} {k : Int → jM → Prop} (o_M : jOK M) (k_o : jK o = 7) (r_a1 : jR a1) (r_a2 : jR a2) (r_a3 : jR a3) (z_a4 : a4 = 0 ∨ a4 = 1) (r_a5 : jR a5) (h : w_X6_select N M o a1 a2 a3 a4 a5 k) : Met l yX6_select (wsG yX6_select cX6_select 8 (some .int)) (rmm 5 124) (jPc G M [.ref (jD G o), .int (jI a1), .int (jI a2), .int (jI a3), .int (jI a4), .int (jI a5)]) (qI G k) 0 0 (gA G) := by
  refine jm_start RX6 rfl (by decide) (Nat.le_of_ble_eq_true rfl) o_M ?_
  intro p e s m args below meth c ls C hr hlocks hl B
  have hl : lv_has ls 8 [(0, .ref (jD G o)), (1, .int (jI a1)), (2, .int (jI a2)), (3, .int (jI a3)), (4, .int (jI a4)), (5, .int (jI a5))] := hl
  unfold w_X6_select at h
  refine lv_iload_n C.1 C.2.1 dX6_select_0 rfl (lv_at hl 1 rfl) ?_
  refine jr_bipush C dX6_select_1 (by decide) ?_
  refine cl_X6_isBelow C hl.1 B q_233 ⟨Nat.le_of_ble_eq_true rfl, Nat.le_of_ble_eq_true rfl⟩ ⟨Nat.zero_le _, Nat.zero_le _⟩ (Nat.le_of_ble_eq_true rfl) r_a1 (jkc rfl) h dX6_select_3 (fun x1 z_x1 _ _ h B => ?_)
  refine jr_if_eq (tgt := 19) C (zR z_x1) h dX6_select_6 (by decide) (fun hc6 h => ?_) (fun hc6 h => ?_)
  · refine jr_ldc (n := -1000001) C q_236 (by decide) dX6_select_19 ?_
    exact jr_iret C B hr hlocks (jkc rfl) h dX6_select_21
  · refine lv_iload C.1 C.2.1 dX6_select_9 (lv_at hl 5 rfl) ?_
    refine jr_bipush C dX6_select_11 (by decide) ?_
    refine cl_X6_isBelow C hl.1 B q_233 ⟨Nat.le_of_ble_eq_true rfl, Nat.le_of_ble_eq_true rfl⟩ ⟨Nat.zero_le _, Nat.zero_le _⟩ (Nat.le_of_ble_eq_true rfl) r_a5 (jkc rfl) h dX6_select_13 (fun x2 z_x2 _ _ h B => ?_)
    refine jr_if_ne (tgt := 22) C (zR z_x2) h dX6_select_16 (by decide) (fun hc16 h => ?_) (fun hc16 h => ?_)
    · refine jr_ldc (n := -1000001) C q_236 (by decide) dX6_select_19 ?_
      exact jr_iret C B hr hlocks (jkc rfl) h dX6_select_21
    · refine lv_iload_n C.1 C.2.1 dX6_select_22 rfl (lv_at hl 2 rfl) ?_
      refine jr_if_lt (tgt := 43) C r_a2 h dX6_select_23 (by decide) (fun hc23 h => ?_) (fun hc23 h => ?_)
      · refine jr_ldc (n := -1000002) C q_237 (by decide) dX6_select_43 ?_
        exact jr_iret C B hr hlocks (jkc rfl) h dX6_select_45
      · refine lv_iload_n C.1 C.2.1 dX6_select_26 rfl (lv_at hl 2 rfl) ?_
        refine jr_iconst C dX6_select_27 ?_
        refine jr_icmp_gt (tgt := 43) C r_a2 (jkc rfl) h dX6_select_28 (by decide) (fun hc28 h => ?_) (fun hc28 h => ?_)
        · refine lv_iload_n C.1 C.2.1 dX6_select_31 rfl (lv_at hl 3 rfl) ?_
          refine jr_ldc (n := -1000000) C q_692 (by decide) dX6_select_32 ?_
          refine jr_icmp_lt (tgt := 43) C r_a3 (jkc rfl) h dX6_select_34 (by decide) (fun hc34 h => ?_) (fun hc34 h => ?_)
          · refine jr_ldc (n := -1000002) C q_237 (by decide) dX6_select_43 ?_
            exact jr_iret C B hr hlocks (jkc rfl) h dX6_select_45
          · refine lv_iload_n C.1 C.2.1 dX6_select_37 rfl (lv_at hl 3 rfl) ?_
            refine jr_ldc (n := 1000000) C q_693 (by decide) dX6_select_38 ?_
            refine jr_icmp_le (tgt := 46) C r_a3 (jkc rfl) h dX6_select_40 (by decide) (fun hc40 h => ?_) (fun hc40 h => ?_)
            · refine lv_aload_n C.1 C.2.1 dX6_select_46 rfl (lv_at hl 0 rfl) ?_
              refine cl_X6_remember C hl.1 B q_449 ⟨Nat.le_of_ble_eq_true rfl, Nat.le_of_ble_eq_true rfl⟩ ⟨Nat.zero_le _, Nat.zero_le _⟩ (Nat.le_of_ble_eq_true rfl) k_o h dX6_select_47 (fun M3 _ _ h B => ?_)
              have o_M3 := B.2.2
              refine lv_aload_n C.1 C.2.1 dX6_select_50 rfl (lv_at hl 0 rfl) ?_
              refine gf_X6_12 C B k_o dX6_select_51 ?_
              refine lv_iload C.1 C.2.1 dX6_select_54 (lv_at hl 5 rfl) ?_
              refine cl_X4_emptyList C hl.1 B q_694 ⟨Nat.le_of_ble_eq_true rfl, Nat.le_of_ble_eq_true rfl⟩ ⟨Nat.zero_le _, Nat.zero_le _⟩ (Nat.le_of_ble_eq_true rfl) (ko_X6_0 k_o) r_a5 h dX6_select_56 (fun M4 _ _ h B => ?_)
              have o_M4 := B.2.2
              refine jr_iconst C dX6_select_59 ?_
              refine lv_istore (lv' := [(6, .int (jI 0)), (0, .ref (jD G o)), (1, .int (jI a1)), (2, .int (jI a2)), (3, .int (jI a3)), (4, .int (jI a4)), (5, .int (jI a5))]) C.1 C.2.1 dX6_select_60 hl (by decide) rfl (fun ls hl => ?_)
              obtain ⟨kx62, hkx62, h⟩ : ∃ kx62 : jM → Prop, (∀ (M7 : jM) (H : Heap) (locs : List Loc) (ls : Array Slot), kx62 M7 → Hp G M7 s.heap H locs → lv_has ls 8 [(0, .ref (jD G o)), (5, .int (jI a5))] → W p l e (rmm 5 124) s m args below meth c H locs 0 0 (MQ below (qI G k) args s 0 0 (gA G)) (F0 m 132 ls [])) ∧ lp_X6_select_62 N o a1 a2 a3 a4 a5 kx62 N 0 M4 := by
                refine ⟨_, ?_, h⟩
                intro M7 H locs ls h  B hl
                have o_M7 := B.2.2
                refine lv_aload_n C.1 C.2.1 dX6_select_132 rfl (lv_at hl 0 rfl) ?_
                refine gf_X6_12 C B k_o dX6_select_133 ?_
                refine lv_iload C.1 C.2.1 dX6_select_136 (lv_at hl 1 rfl) ?_
                refine cl_X4_listedCount C hl.1 B q_246 ⟨Nat.le_of_ble_eq_true rfl, Nat.le_of_ble_eq_true rfl⟩ ⟨Nat.zero_le _, Nat.zero_le _⟩ (Nat.le_of_ble_eq_true rfl) (ko_X6_0 k_o) r_a5 h dX6_select_138 (fun x8 r_x8 _ _ h B => ?_)
                exact jr_iret C B hr hlocks r_x8 h dX6_select_141
              have hL62 : ∀ (n : Nat) (x5 : Int) (M6 : jM) (H : Heap) (locs : List Loc) (ls : Array Slot), lp_X6_select_62 N o a1 a2 a3 a4 a5 kx62 n x5 M6 → jR x5 → Hp G M6 s.heap H locs → lv_has ls 8 [(6, .int (jI x5)), (0, .ref (jD G o)), (1, .int (jI a1)), (2, .int (jI a2)), (3, .int (jI a3)), (4, .int (jI a4)), (5, .int (jI a5))] → W p l e (rmm 5 124) s m args below meth c H locs 0 0 (MQ below (qI G k) args s 0 0 (gA G)) (F0 m 62 ls []) := by
                intro n
                induction n with
                | zero => intro x5 M6 H locs ls h; exact (show False from h).elim
                | succ n ih62 =>
                  intro x5 M6 H locs ls h r_x5 B hl
                  have o_M6 := B.2.2
                  rw [lp_X6_select_62] at h
                  refine lv_iload C.1 C.2.1 dX6_select_62 (lv_at hl 0 rfl) ?_
                  refine lv_aload_n C.1 C.2.1 dX6_select_64 rfl (lv_at hl 1 rfl) ?_
                  refine gf_X6_12 C B k_o dX6_select_65 ?_
                  refine gf_X6_67 C B (ko_X6_0 k_o) dX6_select_68 ?_
                  refine jr_icmp_ge (tgt := 132) C r_x5 (o_M6 (o + 1) 1).1 h dX6_select_71 (by decide) (fun hc71 h => ?_) (fun hc71 h => ?_)
                  · refine lv_aload_n C.1 C.2.1 dX6_select_74 rfl (lv_at hl 1 rfl) ?_
                    refine gf_X6_12 C B k_o dX6_select_75 ?_
                    refine gf_X6_189 C B (ko_X6_0 k_o) dX6_select_78 ?_
                    refine lv_iload C.1 C.2.1 dX6_select_81 (lv_at hl 0 rfl) ?_
                    obtain ⟨g9, h⟩ := h
                    refine jr_rald C B 10 (jk1 (ko_X4_0 (ko_X6_0 k_o)) rfl) (jk2 (ko_X4_0 (ko_X6_0 k_o)) rfl) r_x5 g9 dX6_select_83 (fun kk10 => ?_)
                    refine jr_nmr h kk10 (fun x11 h k_x11 => ?_)
                    refine lv_astore (lv' := [(7, .ref (jD G x11)), (6, .int (jI x5)), (0, .ref (jD G o)), (1, .int (jI a1)), (2, .int (jI a2)), (3, .int (jI a3)), (4, .int (jI a4)), (5, .int (jI a5))]) C.1 C.2.1 dX6_select_84 hl (by decide) rfl (fun ls hl => ?_)
                    refine lv_aload_n C.1 C.2.1 dX6_select_86 rfl (lv_at hl 2 rfl) ?_
                    refine gf_X6_12 C B k_o dX6_select_87 ?_
                    refine lv_aload C.1 C.2.1 dX6_select_90 (lv_at hl 0 rfl) ?_
                    refine lv_iload_n C.1 C.2.1 dX6_select_92 rfl (lv_at hl 3 rfl) ?_
                    refine lv_aload_n C.1 C.2.1 dX6_select_93 rfl (lv_at hl 2 rfl) ?_
                    refine gf_X6_46 C B k_o dX6_select_94 ?_
                    refine cl_X4_gather C hl.1 B q_342 ⟨Nat.le_of_ble_eq_true rfl, Nat.le_of_ble_eq_true rfl⟩ ⟨Nat.zero_le _, Nat.zero_le _⟩ (Nat.le_of_ble_eq_true rfl) (ko_X6_0 k_o) k_x11 r_a1 (ko_X6_6 k_o) h dX6_select_97 (fun M12 _ _ h B => ?_)
                    have o_M12 := B.2.2
                    refine lv_aload_n C.1 C.2.1 dX6_select_100 rfl (lv_at hl 2 rfl) ?_
                    refine lv_iload_n C.1 C.2.1 dX6_select_101 rfl (lv_at hl 4 rfl) ?_
                    refine lv_iload_n C.1 C.2.1 dX6_select_102 rfl (lv_at hl 5 rfl) ?_
                    refine lv_iload C.1 C.2.1 dX6_select_103 (lv_at hl 6 rfl) ?_
                    refine cl_X6_isSelected C hl.1 B q_702 ⟨Nat.le_of_ble_eq_true rfl, Nat.le_of_ble_eq_true rfl⟩ ⟨Nat.zero_le _, Nat.zero_le _⟩ (Nat.le_of_ble_eq_true rfl) k_o r_a2 r_a3 z_a4 h dX6_select_105 (fun x13 z_x13 _ _ h B => ?_)
                    refine jr_if_eq (tgt := 126) C (zR z_x13) h dX6_select_108 (by decide) (fun hc108 h => ?_) (fun hc108 h => ?_)
                    · refine jr_iinc (k := 1) (lv' := fun x14 => [(6, .int (jI x14)), (7, .ref (jD G x11)), (0, .ref (jD G o)), (1, .int (jI a1)), (2, .int (jI a2)), (3, .int (jI a3)), (4, .int (jI a4)), (5, .int (jI a5))]) C h hl rfl (by decide) (fun _ => rfl) dX6_select_126 (fun x14 h r_x14 ls hl => ?_)
                      refine lv_goto (tgt := 62) C.1 C.2.1 dX6_select_129 (by decide) ?_
                      exact ih62 _ _ _ _ _ h r_x14 B (lv_sub hl [0, 2, 3, 4, 5, 6, 7] rfl)
                    · refine lv_aload_n C.1 C.2.1 dX6_select_111 rfl (lv_at hl 2 rfl) ?_
                      refine gf_X6_12 C B k_o dX6_select_112 ?_
                      refine lv_iload C.1 C.2.1 dX6_select_115 (lv_at hl 7 rfl) ?_
                      refine lv_aload C.1 C.2.1 dX6_select_117 (lv_at hl 0 rfl) ?_
                      refine gf_X6_201 C B k_x11 dX6_select_119 ?_
                      refine jr_iconst C dX6_select_122 ?_
                      refine cl_X4_setListed C hl.1 B q_709 ⟨Nat.le_of_ble_eq_true rfl, Nat.le_of_ble_eq_true rfl⟩ ⟨Nat.zero_le _, Nat.zero_le _⟩ (Nat.le_of_ble_eq_true rfl) (ko_X6_0 k_o) r_a5 (o_M12 x11 0).1 (Or.inr rfl) h dX6_select_123 (fun M15 _ _ h B => ?_)
                      have o_M15 := B.2.2
                      refine jr_iinc (k := 1) (lv' := fun x16 => [(6, .int (jI x16)), (7, .ref (jD G x11)), (0, .ref (jD G o)), (1, .int (jI a1)), (2, .int (jI a2)), (3, .int (jI a3)), (4, .int (jI a4)), (5, .int (jI a5))]) C h hl rfl (by decide) (fun _ => rfl) dX6_select_126 (fun x16 h r_x16 ls hl => ?_)
                      refine lv_goto (tgt := 62) C.1 C.2.1 dX6_select_129 (by decide) ?_
                      exact ih62 _ _ _ _ _ h r_x16 B (lv_sub hl [0, 2, 3, 4, 5, 6, 7] rfl)
                  · exact hkx62 _ _ _ _ h  B (lv_sub hl [1, 6] rfl)
              exact hL62 N _ _ _ _ _ h (jkc rfl) B (lv_sub hl [0, 1, 2, 3, 4, 5, 6] rfl)
            · refine jr_ldc (n := -1000002) C q_237 (by decide) dX6_select_43 ?_
              exact jr_iret C B hr hlocks (jkc rfl) h dX6_select_45
        · refine jr_ldc (n := -1000002) C q_237 (by decide) dX6_select_43 ?_
          exact jr_iret C B hr hlocks (jkc rfl) h dX6_select_45
theorem cl_X6_select {p : Program} {l : Launch} {e : Env} {R : Room} {s : State} {m : MethodId} {args : Array Value} {below : List Frame} {meth : Method} {c : Code} {H : Heap} {locs : List Loc} {cells slots : Nat} {Q : State → Prop} {cc : ByteArray} {nL : Nat} {own : String} {G : jG} {H0 : Heap} {pc idx : Nat} {ls : Array Slot} {rest : List Value} {N : Nat} {M : jM} {o a1 a2 a3 a4 a5 : Int} {k : Int → jM → Prop} (C : Cx G p s args m c cc nL own) (hl : ls.size = nL) (B : Hp G M H0 H locs) (q1 : Cond.methodLink own idx yX6_select ∈ tb) (hR : (rmm 5 124).frames + 1 ≤ R.frames ∧ 8 + (8 + 11) + (rmm 5 124).locals ≤ R.locals) (hcs : cells ≤ R.cells ∧ slots ≤ R.slots) (hW : (rest.map fun v => v.category).sum ≤ 8) (k_o : jK o = 7) (r_a1 : jR a1) (r_a2 : jR a2) (r_a3 : jR a3) (z_a4 : a4 = 0 ∨ a4 = 1) (r_a5 : jR a5) (h : w_X6_select N M o a1 a2 a3 a4 a5 k) (hdg : decode cc pc = .ok (.invokevirtual idx, 3)) (kk : ∀ (r : Int) (M' : jM), jR r → ∀ (H1 : Heap) (locs1 : List Loc), k r M' → Hp G M' H0 H1 locs1 → W p l e R s m args below meth c H1 locs1 cells slots Q (F0 m (pc + 3) ls (.int (jI r) :: rest))) : W p l e R s m args below meth c H locs cells slots Q (F0 m pc ls (.int (jI a5) :: .int (jI a4) :: .int (jI a3) :: .int (jI a2) :: .int (jI a1) :: .ref (jD G o) :: rest)) :=
  jr_callI B (jr_runV (o := o) (As := [.int (jI a1), .int (jI a2), .int (jI a3), .int (jI a4), .int (jI a5)]) (n := 5) C hl B (m_X6_select B.2.2 k_o r_a1 r_a2 r_a3 z_a4 r_a5 h) (jE7 k_o) (by omega) rfl q1 q_689 q_690 q_691 q_1 ⟨by decide, by decide, by decide +kernel⟩ rfl ⟨rfl, rfl⟩ hR hcs rfl hW hdg) (fun r M' H1 locs1 hr hk B1 => kk r M' hr H1 locs1 hk B1)
def w_X6_isCombined (a1 : Int) (a2 : Int) (a3 : Int) (k : Int → Prop) : Prop := (if a1 = 0 then (if a2 = 0 then (k 0) else (if a3 = 0 then (k 0) else (k 1))) else (if a1 = 1 then (if a2 = 0 then (if a3 = 0 then (k 0) else (k 1)) else (k 1)) else (if a2 = 0 then (k 0) else (if a3 = 0 then (k 1) else (k 0)))))
set_option maxHeartbeats 4000000 in
set_option maxRecDepth 100000 in
theorem m_X6_isCombined {l : Launch} {G : jG} {M : jM} {a1 a2 a3 : Int} {k : Int → Prop} (o_M : jOK M) (r_a1 : jR a1) (z_a2 : a2 = 0 ∨ a2 = 1) (z_a3 : a3 = 0 ∨ a3 = 1) (h : w_X6_isCombined a1 a2 a3 k) : Met l yX6_isCombined (wsG yX6_isCombined cX6_isCombined 3 (some .boolean)) (rmm 0 0) (jPc G M [.int (jI a1), .int (jI a2), .int (jI a3)]) (qZ G (fun r M' => M' = M ∧ k r)) 0 0 (gA G) := by
  refine jm_start RX6 rfl (by decide) (Nat.le_of_ble_eq_true rfl) o_M ?_
  intro p e s m args below meth c ls C hr hlocks hl B
  have hl : lv_has ls 3 [(0, .int (jI a1)), (1, .int (jI a2)), (2, .int (jI a3))] := hl
  unfold w_X6_isCombined at h
  refine lv_iload_n C.1 C.2.1 dX6_isCombined_0 rfl (lv_at hl 0 rfl) ?_
  by_cases hs1_0 : a1 = 0
  · rw [if_pos hs1_0] at h
    refine jr_lookup (off := 27) (tgt := 28) C r_a1 (by decide) (by rw [hs1_0]; decide) dX6_isCombined_1 (by decide) ?_
    refine lv_iload_n C.1 C.2.1 dX6_isCombined_28 rfl (lv_at hl 1 rfl) ?_
    refine jr_if_eq (tgt := 40) C (zR z_a2) h dX6_isCombined_29 (by decide) (fun hc29 h => ?_) (fun hc29 h => ?_)
    · refine jr_iconst C dX6_isCombined_40 ?_
      exact jr_zret C B hr hlocks (Or.inl rfl) ⟨rfl, h⟩ dX6_isCombined_41
    · refine lv_iload_n C.1 C.2.1 dX6_isCombined_32 rfl (lv_at hl 2 rfl) ?_
      refine jr_if_eq (tgt := 40) C (zR z_a3) h dX6_isCombined_33 (by decide) (fun hc33 h => ?_) (fun hc33 h => ?_)
      · refine jr_iconst C dX6_isCombined_40 ?_
        exact jr_zret C B hr hlocks (Or.inl rfl) ⟨rfl, h⟩ dX6_isCombined_41
      · refine jr_iconst C dX6_isCombined_36 ?_
        refine lv_goto (tgt := 41) C.1 C.2.1 dX6_isCombined_37 (by decide) ?_
        exact jr_zret C B hr hlocks (Or.inr rfl) ⟨rfl, h⟩ dX6_isCombined_41
  · rw [if_neg hs1_0] at h
    by_cases hs1_1 : a1 = 1
    · rw [if_pos hs1_1] at h
      refine jr_lookup (off := 41) (tgt := 42) C r_a1 (by decide) (by rw [hs1_1]; decide) dX6_isCombined_1 (by decide) ?_
      refine lv_iload_n C.1 C.2.1 dX6_isCombined_42 rfl (lv_at hl 1 rfl) ?_
      refine jr_if_ne (tgt := 50) C (zR z_a2) h dX6_isCombined_43 (by decide) (fun hc43 h => ?_) (fun hc43 h => ?_)
      · refine lv_iload_n C.1 C.2.1 dX6_isCombined_46 rfl (lv_at hl 2 rfl) ?_
        refine jr_if_eq (tgt := 54) C (zR z_a3) h dX6_isCombined_47 (by decide) (fun hc47 h => ?_) (fun hc47 h => ?_)
        · refine jr_iconst C dX6_isCombined_54 ?_
          exact jr_zret C B hr hlocks (Or.inl rfl) ⟨rfl, h⟩ dX6_isCombined_55
        · refine jr_iconst C dX6_isCombined_50 ?_
          refine lv_goto (tgt := 55) C.1 C.2.1 dX6_isCombined_51 (by decide) ?_
          exact jr_zret C B hr hlocks (Or.inr rfl) ⟨rfl, h⟩ dX6_isCombined_55
      · refine jr_iconst C dX6_isCombined_50 ?_
        refine lv_goto (tgt := 55) C.1 C.2.1 dX6_isCombined_51 (by decide) ?_
        exact jr_zret C B hr hlocks (Or.inr rfl) ⟨rfl, h⟩ dX6_isCombined_55
    · rw [if_neg hs1_1] at h
      refine jr_lookup (off := 55) (tgt := 56) C r_a1 (by decide) (by simp [Op.lookupswitch.offset, hs1_0, Ne.symm hs1_0, hs1_1, Ne.symm hs1_1]) dX6_isCombined_1 (by decide) ?_
      refine lv_iload_n C.1 C.2.1 dX6_isCombined_56 rfl (lv_at hl 1 rfl) ?_
      refine jr_if_eq (tgt := 68) C (zR z_a2) h dX6_isCombined_57 (by decide) (fun hc57 h => ?_) (fun hc57 h => ?_)
      · refine jr_iconst C dX6_isCombined_68 ?_
        exact jr_zret C B hr hlocks (Or.inl rfl) ⟨rfl, h⟩ dX6_isCombined_69
      · refine lv_iload_n C.1 C.2.1 dX6_isCombined_60 rfl (lv_at hl 2 rfl) ?_
        refine jr_if_ne (tgt := 68) C (zR z_a3) h dX6_isCombined_61 (by decide) (fun hc61 h => ?_) (fun hc61 h => ?_)
        · refine jr_iconst C dX6_isCombined_64 ?_
          refine lv_goto (tgt := 69) C.1 C.2.1 dX6_isCombined_65 (by decide) ?_
          exact jr_zret C B hr hlocks (Or.inr rfl) ⟨rfl, h⟩ dX6_isCombined_69
        · refine jr_iconst C dX6_isCombined_68 ?_
          exact jr_zret C B hr hlocks (Or.inl rfl) ⟨rfl, h⟩ dX6_isCombined_69
theorem cl_X6_isCombined {p : Program} {l : Launch} {e : Env} {R : Room} {s : State} {m : MethodId} {args : Array Value} {below : List Frame} {meth : Method} {c : Code} {H : Heap} {locs : List Loc} {cells slots : Nat} {Q : State → Prop} {cc : ByteArray} {nL : Nat} {own : String} {G : jG} {H0 : Heap} {pc idx : Nat} {ls : Array Slot} {rest : List Value} {M : jM} {a1 a2 a3 : Int} {k : Int → Prop} (C : Cx G p s args m c cc nL own) (hl : ls.size = nL) (B : Hp G M H0 H locs) (q1 : Cond.methodLink own idx yX6_isCombined ∈ tb) (hR : (rmm 0 0).frames + 1 ≤ R.frames ∧ 8 + (3 + 11) + (rmm 0 0).locals ≤ R.locals) (hcs : cells ≤ R.cells ∧ slots ≤ R.slots) (hW : (rest.map fun v => v.category).sum ≤ 8) (r_a1 : jR a1) (z_a2 : a2 = 0 ∨ a2 = 1) (z_a3 : a3 = 0 ∨ a3 = 1) (h : w_X6_isCombined a1 a2 a3 k) (hdg : decode cc pc = .ok (.invokestatic idx, 3)) (kk : ∀ (r : Int), (r = 0 ∨ r = 1) → ∀ (H1 : Heap) (locs1 : List Loc), k r → Hp G M H0 H1 locs1 → W p l e R s m args below meth c H1 locs1 cells slots Q (F0 m (pc + 3) ls (.int (jI r) :: rest))) : W p l e R s m args below meth c H locs cells slots Q (F0 m pc ls (.int (jI a3) :: .int (jI a2) :: .int (jI a1) :: rest)) :=
  jr_callZ B (jr_runS (As := [.int (jI a1), .int (jI a2), .int (jI a3)]) (n := 3) C hl B (m_X6_isCombined B.2.2 r_a1 z_a2 z_a3 h) q1 q_715 q_716 q_1 ⟨by decide, by decide, by decide +kernel⟩ rfl ⟨rfl, rfl⟩ hR hcs rfl hW hdg) (fun r M' H1 locs1 hr hk B1 => by obtain ⟨rfl, hk⟩ := hk; exact kk r hr H1 locs1 hk B1)
def lp_X6_combine_50 (o : Int) (a1 : Int) (a2 : Int) (a3 : Int) (a4 : Int) (kx50 : jM → Prop) : Nat → Int → jM → Prop
  | 0, _, _ => False
  | n + 1, x5, M6 => (if x5 < 100 then (w_X4_isListed M6 (o + 1) a2 x5 (fun x9 => (w_X4_isListed M6 (o + 1) a3 x5 (fun x10 => (w_X6_isCombined a1 x9 x10 (fun x11 => (w_X4_setListed M6 (o + 1) a4 x5 x11 (fun M12 => (jL (jW (x5 + 1)) (fun x13 => (lp_X6_combine_50 o a1 a2 a3 a4 kx50 n x13 M12))))))))))) else (kx50 M6))
def w_X6_combine (N : Nat) (M : jM) (o : Int) (a1 : Int) (a2 : Int) (a3 : Int) (a4 : Int) (k : Int → jM → Prop) : Prop := (w_X6_isBelow a2 8 (fun x1 => (if x1 = 0 then (k (-1000001) M) else (w_X6_isBelow a3 8 (fun x2 => (if x2 = 0 then (k (-1000001) M) else (w_X6_isBelow a4 8 (fun x3 => (if x3 = 0 then (k (-1000001) M) else (if a1 < 0 then (k (-1000002) M) else (if a1 ≤ 2 then (w_X6_remember N M o (fun M4 => (lp_X6_combine_50 o a1 a2 a3 a4 (fun (M7 : jM) => (w_X4_listedCount N M7 (o + 1) a4 (fun x8 => (k x8 M7)))) N 0 M4))) else (k (-1000002) M))))))))))))
set_option maxHeartbeats 4000000 in
set_option maxRecDepth 100000 in
theorem m_X6_combine {l : Launch} {G : jG} {N : Nat} {M : jM} {o a1 a2 a3 a4 : Int} {k : Int → jM → Prop} (o_M : jOK M) (k_o : jK o = 7) (r_a1 : jR a1) (r_a2 : jR a2) (r_a3 : jR a3) (r_a4 : jR a4) (h : w_X6_combine N M o a1 a2 a3 a4 k) : Met l yX6_combine (wsG yX6_combine cX6_combine 7 (some .int)) (rmm 5 124) (jPc G M [.ref (jD G o), .int (jI a1), .int (jI a2), .int (jI a3), .int (jI a4)]) (qI G k) 0 0 (gA G) := by
  refine jm_start RX6 rfl (by decide) (Nat.le_of_ble_eq_true rfl) o_M ?_
  intro p e s m args below meth c ls C hr hlocks hl B
  have hl : lv_has ls 7 [(0, .ref (jD G o)), (1, .int (jI a1)), (2, .int (jI a2)), (3, .int (jI a3)), (4, .int (jI a4))] := hl
  unfold w_X6_combine at h
  refine lv_iload_n C.1 C.2.1 dX6_combine_0 rfl (lv_at hl 2 rfl) ?_
  refine jr_bipush C dX6_combine_1 (by decide) ?_
  refine cl_X6_isBelow C hl.1 B q_233 ⟨Nat.le_of_ble_eq_true rfl, Nat.le_of_ble_eq_true rfl⟩ ⟨Nat.zero_le _, Nat.zero_le _⟩ (Nat.le_of_ble_eq_true rfl) r_a2 (jkc rfl) h dX6_combine_3 (fun x1 z_x1 _ _ h B => ?_)
  refine jr_if_eq (tgt := 28) C (zR z_x1) h dX6_combine_6 (by decide) (fun hc6 h => ?_) (fun hc6 h => ?_)
  · refine jr_ldc (n := -1000001) C q_236 (by decide) dX6_combine_28 ?_
    exact jr_iret C B hr hlocks (jkc rfl) h dX6_combine_30
  · refine lv_iload_n C.1 C.2.1 dX6_combine_9 rfl (lv_at hl 3 rfl) ?_
    refine jr_bipush C dX6_combine_10 (by decide) ?_
    refine cl_X6_isBelow C hl.1 B q_233 ⟨Nat.le_of_ble_eq_true rfl, Nat.le_of_ble_eq_true rfl⟩ ⟨Nat.zero_le _, Nat.zero_le _⟩ (Nat.le_of_ble_eq_true rfl) r_a3 (jkc rfl) h dX6_combine_12 (fun x2 z_x2 _ _ h B => ?_)
    refine jr_if_eq (tgt := 28) C (zR z_x2) h dX6_combine_15 (by decide) (fun hc15 h => ?_) (fun hc15 h => ?_)
    · refine jr_ldc (n := -1000001) C q_236 (by decide) dX6_combine_28 ?_
      exact jr_iret C B hr hlocks (jkc rfl) h dX6_combine_30
    · refine lv_iload C.1 C.2.1 dX6_combine_18 (lv_at hl 4 rfl) ?_
      refine jr_bipush C dX6_combine_20 (by decide) ?_
      refine cl_X6_isBelow C hl.1 B q_233 ⟨Nat.le_of_ble_eq_true rfl, Nat.le_of_ble_eq_true rfl⟩ ⟨Nat.zero_le _, Nat.zero_le _⟩ (Nat.le_of_ble_eq_true rfl) r_a4 (jkc rfl) h dX6_combine_22 (fun x3 z_x3 _ _ h B => ?_)
      refine jr_if_ne (tgt := 31) C (zR z_x3) h dX6_combine_25 (by decide) (fun hc25 h => ?_) (fun hc25 h => ?_)
      · refine jr_ldc (n := -1000001) C q_236 (by decide) dX6_combine_28 ?_
        exact jr_iret C B hr hlocks (jkc rfl) h dX6_combine_30
      · refine lv_iload_n C.1 C.2.1 dX6_combine_31 rfl (lv_at hl 1 rfl) ?_
        refine jr_if_lt (tgt := 40) C r_a1 h dX6_combine_32 (by decide) (fun hc32 h => ?_) (fun hc32 h => ?_)
        · refine jr_ldc (n := -1000002) C q_237 (by decide) dX6_combine_40 ?_
          exact jr_iret C B hr hlocks (jkc rfl) h dX6_combine_42
        · refine lv_iload_n C.1 C.2.1 dX6_combine_35 rfl (lv_at hl 1 rfl) ?_
          refine jr_iconst C dX6_combine_36 ?_
          refine jr_icmp_le (tgt := 43) C r_a1 (jkc rfl) h dX6_combine_37 (by decide) (fun hc37 h => ?_) (fun hc37 h => ?_)
          · refine lv_aload_n C.1 C.2.1 dX6_combine_43 rfl (lv_at hl 0 rfl) ?_
            refine cl_X6_remember C hl.1 B q_449 ⟨Nat.le_of_ble_eq_true rfl, Nat.le_of_ble_eq_true rfl⟩ ⟨Nat.zero_le _, Nat.zero_le _⟩ (Nat.le_of_ble_eq_true rfl) k_o h dX6_combine_44 (fun M4 _ _ h B => ?_)
            have o_M4 := B.2.2
            refine jr_iconst C dX6_combine_47 ?_
            refine lv_istore (lv' := [(5, .int (jI 0)), (0, .ref (jD G o)), (1, .int (jI a1)), (2, .int (jI a2)), (3, .int (jI a3)), (4, .int (jI a4))]) C.1 C.2.1 dX6_combine_48 hl (by decide) rfl (fun ls hl => ?_)
            obtain ⟨kx50, hkx50, h⟩ : ∃ kx50 : jM → Prop, (∀ (M7 : jM) (H : Heap) (locs : List Loc) (ls : Array Slot), kx50 M7 → Hp G M7 s.heap H locs → lv_has ls 7 [(0, .ref (jD G o)), (4, .int (jI a4))] → W p l e (rmm 5 124) s m args below meth c H locs 0 0 (MQ below (qI G k) args s 0 0 (gA G)) (F0 m 102 ls [])) ∧ lp_X6_combine_50 o a1 a2 a3 a4 kx50 N 0 M4 := by
              refine ⟨_, ?_, h⟩
              intro M7 H locs ls h  B hl
              have o_M7 := B.2.2
              refine lv_aload_n C.1 C.2.1 dX6_combine_102 rfl (lv_at hl 0 rfl) ?_
              refine gf_X6_12 C B k_o dX6_combine_103 ?_
              refine lv_iload C.1 C.2.1 dX6_combine_106 (lv_at hl 1 rfl) ?_
              refine cl_X4_listedCount C hl.1 B q_246 ⟨Nat.le_of_ble_eq_true rfl, Nat.le_of_ble_eq_true rfl⟩ ⟨Nat.zero_le _, Nat.zero_le _⟩ (Nat.le_of_ble_eq_true rfl) (ko_X6_0 k_o) r_a4 h dX6_combine_108 (fun x8 r_x8 _ _ h B => ?_)
              exact jr_iret C B hr hlocks r_x8 h dX6_combine_111
            have hL50 : ∀ (n : Nat) (x5 : Int) (M6 : jM) (H : Heap) (locs : List Loc) (ls : Array Slot), lp_X6_combine_50 o a1 a2 a3 a4 kx50 n x5 M6 → jR x5 → Hp G M6 s.heap H locs → lv_has ls 7 [(5, .int (jI x5)), (0, .ref (jD G o)), (1, .int (jI a1)), (2, .int (jI a2)), (3, .int (jI a3)), (4, .int (jI a4))] → W p l e (rmm 5 124) s m args below meth c H locs 0 0 (MQ below (qI G k) args s 0 0 (gA G)) (F0 m 50 ls []) := by
              intro n
              induction n with
              | zero => intro x5 M6 H locs ls h; exact (show False from h).elim
              | succ n ih50 =>
                intro x5 M6 H locs ls h r_x5 B hl
                have o_M6 := B.2.2
                rw [lp_X6_combine_50] at h
                refine lv_iload C.1 C.2.1 dX6_combine_50 (lv_at hl 0 rfl) ?_
                refine jr_bipush C dX6_combine_52 (by decide) ?_
                refine jr_icmp_ge (tgt := 102) C r_x5 (jkc rfl) h dX6_combine_54 (by decide) (fun hc54 h => ?_) (fun hc54 h => ?_)
                · refine lv_iload_n C.1 C.2.1 dX6_combine_57 rfl (lv_at hl 2 rfl) ?_
                  refine lv_aload_n C.1 C.2.1 dX6_combine_58 rfl (lv_at hl 1 rfl) ?_
                  refine gf_X6_12 C B k_o dX6_combine_59 ?_
                  refine lv_iload_n C.1 C.2.1 dX6_combine_62 rfl (lv_at hl 3 rfl) ?_
                  refine lv_iload C.1 C.2.1 dX6_combine_63 (lv_at hl 0 rfl) ?_
                  refine cl_X4_isListed C hl.1 B q_258 ⟨Nat.le_of_ble_eq_true rfl, Nat.le_of_ble_eq_true rfl⟩ ⟨Nat.zero_le _, Nat.zero_le _⟩ (Nat.le_of_ble_eq_true rfl) (ko_X6_0 k_o) r_a2 r_x5 h dX6_combine_65 (fun x9 z_x9 _ _ h B => ?_)
                  refine lv_aload_n C.1 C.2.1 dX6_combine_68 rfl (lv_at hl 1 rfl) ?_
                  refine gf_X6_12 C B k_o dX6_combine_69 ?_
                  refine lv_iload_n C.1 C.2.1 dX6_combine_72 rfl (lv_at hl 4 rfl) ?_
                  refine lv_iload C.1 C.2.1 dX6_combine_73 (lv_at hl 0 rfl) ?_
                  refine cl_X4_isListed C hl.1 B q_258 ⟨Nat.le_of_ble_eq_true rfl, Nat.le_of_ble_eq_true rfl⟩ ⟨Nat.zero_le _, Nat.zero_le _⟩ (Nat.le_of_ble_eq_true rfl) (ko_X6_0 k_o) r_a3 r_x5 h dX6_combine_75 (fun x10 z_x10 _ _ h B => ?_)
                  refine cl_X6_isCombined C hl.1 B q_714 ⟨Nat.le_of_ble_eq_true rfl, Nat.le_of_ble_eq_true rfl⟩ ⟨Nat.zero_le _, Nat.zero_le _⟩ (Nat.le_of_ble_eq_true rfl) r_a1 z_x9 z_x10 h dX6_combine_78 (fun x11 z_x11 _ _ h B => ?_)
                  refine lv_istore (lv' := [(6, .int (jI x11)), (5, .int (jI x5)), (0, .ref (jD G o)), (1, .int (jI a1)), (2, .int (jI a2)), (3, .int (jI a3)), (4, .int (jI a4))]) C.1 C.2.1 dX6_combine_81 hl (by decide) rfl (fun ls hl => ?_)
                  refine lv_aload_n C.1 C.2.1 dX6_combine_83 rfl (lv_at hl 2 rfl) ?_
                  refine gf_X6_12 C B k_o dX6_combine_84 ?_
                  refine lv_iload C.1 C.2.1 dX6_combine_87 (lv_at hl 6 rfl) ?_
                  refine lv_iload C.1 C.2.1 dX6_combine_89 (lv_at hl 1 rfl) ?_
                  refine lv_iload C.1 C.2.1 dX6_combine_91 (lv_at hl 0 rfl) ?_
                  refine cl_X4_setListed C hl.1 B q_709 ⟨Nat.le_of_ble_eq_true rfl, Nat.le_of_ble_eq_true rfl⟩ ⟨Nat.zero_le _, Nat.zero_le _⟩ (Nat.le_of_ble_eq_true rfl) (ko_X6_0 k_o) r_a4 r_x5 z_x11 h dX6_combine_93 (fun M12 _ _ h B => ?_)
                  have o_M12 := B.2.2
                  refine jr_iinc (k := 1) (lv' := fun x13 => [(5, .int (jI x13)), (6, .int (jI x11)), (0, .ref (jD G o)), (1, .int (jI a1)), (2, .int (jI a2)), (3, .int (jI a3)), (4, .int (jI a4))]) C h hl rfl (by decide) (fun _ => rfl) dX6_combine_96 (fun x13 h r_x13 ls hl => ?_)
                  refine lv_goto (tgt := 50) C.1 C.2.1 dX6_combine_99 (by decide) ?_
                  exact ih50 _ _ _ _ _ h r_x13 B (lv_sub hl [0, 2, 3, 4, 5, 6] rfl)
                · exact hkx50 _ _ _ _ h  B (lv_sub hl [1, 5] rfl)
            exact hL50 N _ _ _ _ _ h (jkc rfl) B (lv_sub hl [0, 1, 2, 3, 4, 5] rfl)
          · refine jr_ldc (n := -1000002) C q_237 (by decide) dX6_combine_40 ?_
            exact jr_iret C B hr hlocks (jkc rfl) h dX6_combine_42
theorem cl_X6_combine {p : Program} {l : Launch} {e : Env} {R : Room} {s : State} {m : MethodId} {args : Array Value} {below : List Frame} {meth : Method} {c : Code} {H : Heap} {locs : List Loc} {cells slots : Nat} {Q : State → Prop} {cc : ByteArray} {nL : Nat} {own : String} {G : jG} {H0 : Heap} {pc idx : Nat} {ls : Array Slot} {rest : List Value} {N : Nat} {M : jM} {o a1 a2 a3 a4 : Int} {k : Int → jM → Prop} (C : Cx G p s args m c cc nL own) (hl : ls.size = nL) (B : Hp G M H0 H locs) (q1 : Cond.methodLink own idx yX6_combine ∈ tb) (hR : (rmm 5 124).frames + 1 ≤ R.frames ∧ 8 + (7 + 11) + (rmm 5 124).locals ≤ R.locals) (hcs : cells ≤ R.cells ∧ slots ≤ R.slots) (hW : (rest.map fun v => v.category).sum ≤ 8) (k_o : jK o = 7) (r_a1 : jR a1) (r_a2 : jR a2) (r_a3 : jR a3) (r_a4 : jR a4) (h : w_X6_combine N M o a1 a2 a3 a4 k) (hdg : decode cc pc = .ok (.invokevirtual idx, 3)) (kk : ∀ (r : Int) (M' : jM), jR r → ∀ (H1 : Heap) (locs1 : List Loc), k r M' → Hp G M' H0 H1 locs1 → W p l e R s m args below meth c H1 locs1 cells slots Q (F0 m (pc + 3) ls (.int (jI r) :: rest))) : W p l e R s m args below meth c H locs cells slots Q (F0 m pc ls (.int (jI a4) :: .int (jI a3) :: .int (jI a2) :: .int (jI a1) :: .ref (jD G o) :: rest)) :=
  jr_callI B (jr_runV (o := o) (As := [.int (jI a1), .int (jI a2), .int (jI a3), .int (jI a4)]) (n := 4) C hl B (m_X6_combine B.2.2 k_o r_a1 r_a2 r_a3 r_a4 h) (jE7 k_o) (by omega) rfl q1 q_711 q_712 q_713 q_1 ⟨by decide, by decide, by decide +kernel⟩ rfl ⟨rfl, rfl⟩ hR hcs rfl hW hdg) (fun r M' H1 locs1 hr hk B1 => kk r M' hr H1 locs1 hk B1)
def w_X6_clearList (N : Nat) (M : jM) (o : Int) (a1 : Int) (k : Int → jM → Prop) : Prop := (w_X6_isBelow a1 8 (fun x1 => (if x1 = 0 then (k (-1000001) M) else (w_X4_listedCount N M (o + 1) a1 (fun x2 => (w_X6_remember N M o (fun M3 => (w_X4_emptyList N M3 (o + 1) a1 (fun M4 => (k x2 M4))))))))))
set_option maxHeartbeats 4000000 in
set_option maxRecDepth 100000 in
theorem m_X6_clearList {l : Launch} {G : jG} {N : Nat} {M : jM} {o a1 : Int} {k : Int → jM → Prop} (o_M : jOK M) (k_o : jK o = 7) (r_a1 : jR a1) (h : w_X6_clearList N M o a1 k) : Met l yX6_clearList (wsG yX6_clearList cX6_clearList 3 (some .int)) (rmm 5 124) (jPc G M [.ref (jD G o), .int (jI a1)]) (qI G k) 0 0 (gA G) := by
  refine jm_start RX6 rfl (by decide) (Nat.le_of_ble_eq_true rfl) o_M ?_
  intro p e s m args below meth c ls C hr hlocks hl B
  have hl : lv_has ls 3 [(0, .ref (jD G o)), (1, .int (jI a1))] := hl
  unfold w_X6_clearList at h
  refine lv_iload_n C.1 C.2.1 dX6_clearList_0 rfl (lv_at hl 1 rfl) ?_
  refine jr_bipush C dX6_clearList_1 (by decide) ?_
  refine cl_X6_isBelow C hl.1 B q_233 ⟨Nat.le_of_ble_eq_true rfl, Nat.le_of_ble_eq_true rfl⟩ ⟨Nat.zero_le _, Nat.zero_le _⟩ (Nat.le_of_ble_eq_true rfl) r_a1 (jkc rfl) h dX6_clearList_3 (fun x1 z_x1 _ _ h B => ?_)
  refine jr_if_ne (tgt := 12) C (zR z_x1) h dX6_clearList_6 (by decide) (fun hc6 h => ?_) (fun hc6 h => ?_)
  · refine jr_ldc (n := -1000001) C q_236 (by decide) dX6_clearList_9 ?_
    exact jr_iret C B hr hlocks (jkc rfl) h dX6_clearList_11
  · refine lv_aload_n C.1 C.2.1 dX6_clearList_12 rfl (lv_at hl 0 rfl) ?_
    refine gf_X6_12 C B k_o dX6_clearList_13 ?_
    refine lv_iload_n C.1 C.2.1 dX6_clearList_16 rfl (lv_at hl 1 rfl) ?_
    refine cl_X4_listedCount C hl.1 B q_246 ⟨Nat.le_of_ble_eq_true rfl, Nat.le_of_ble_eq_true rfl⟩ ⟨Nat.zero_le _, Nat.zero_le _⟩ (Nat.le_of_ble_eq_true rfl) (ko_X6_0 k_o) r_a1 h dX6_clearList_17 (fun x2 r_x2 _ _ h B => ?_)
    refine lv_istore_n (lv' := [(2, .int (jI x2)), (0, .ref (jD G o)), (1, .int (jI a1))]) C.1 C.2.1 dX6_clearList_20 rfl hl (by decide) rfl (fun ls hl => ?_)
    refine lv_aload_n C.1 C.2.1 dX6_clearList_21 rfl (lv_at hl 1 rfl) ?_
    refine cl_X6_remember C hl.1 B q_449 ⟨Nat.le_of_ble_eq_true rfl, Nat.le_of_ble_eq_true rfl⟩ ⟨Nat.zero_le _, Nat.zero_le _⟩ (Nat.le_of_ble_eq_true rfl) k_o h dX6_clearList_22 (fun M3 _ _ h B => ?_)
    have o_M3 := B.2.2
    refine lv_aload_n C.1 C.2.1 dX6_clearList_25 rfl (lv_at hl 1 rfl) ?_
    refine gf_X6_12 C B k_o dX6_clearList_26 ?_
    refine lv_iload_n C.1 C.2.1 dX6_clearList_29 rfl (lv_at hl 2 rfl) ?_
    refine cl_X4_emptyList C hl.1 B q_694 ⟨Nat.le_of_ble_eq_true rfl, Nat.le_of_ble_eq_true rfl⟩ ⟨Nat.zero_le _, Nat.zero_le _⟩ (Nat.le_of_ble_eq_true rfl) (ko_X6_0 k_o) r_a1 h dX6_clearList_30 (fun M4 _ _ h B => ?_)
    have o_M4 := B.2.2
    refine lv_iload_n C.1 C.2.1 dX6_clearList_33 rfl (lv_at hl 0 rfl) ?_
    exact jr_iret C B hr hlocks r_x2 h dX6_clearList_34
theorem cl_X6_clearList {p : Program} {l : Launch} {e : Env} {R : Room} {s : State} {m : MethodId} {args : Array Value} {below : List Frame} {meth : Method} {c : Code} {H : Heap} {locs : List Loc} {cells slots : Nat} {Q : State → Prop} {cc : ByteArray} {nL : Nat} {own : String} {G : jG} {H0 : Heap} {pc idx : Nat} {ls : Array Slot} {rest : List Value} {N : Nat} {M : jM} {o a1 : Int} {k : Int → jM → Prop} (C : Cx G p s args m c cc nL own) (hl : ls.size = nL) (B : Hp G M H0 H locs) (q1 : Cond.methodLink own idx yX6_clearList ∈ tb) (hR : (rmm 5 124).frames + 1 ≤ R.frames ∧ 8 + (3 + 11) + (rmm 5 124).locals ≤ R.locals) (hcs : cells ≤ R.cells ∧ slots ≤ R.slots) (hW : (rest.map fun v => v.category).sum ≤ 8) (k_o : jK o = 7) (r_a1 : jR a1) (h : w_X6_clearList N M o a1 k) (hdg : decode cc pc = .ok (.invokevirtual idx, 3)) (kk : ∀ (r : Int) (M' : jM), jR r → ∀ (H1 : Heap) (locs1 : List Loc), k r M' → Hp G M' H0 H1 locs1 → W p l e R s m args below meth c H1 locs1 cells slots Q (F0 m (pc + 3) ls (.int (jI r) :: rest))) : W p l e R s m args below meth c H locs cells slots Q (F0 m pc ls (.int (jI a1) :: .ref (jD G o) :: rest)) :=
  jr_callI B (jr_runV (o := o) (As := [.int (jI a1)]) (n := 1) C hl B (m_X6_clearList B.2.2 k_o r_a1 h) (jE7 k_o) (by omega) rfl q1 q_718 q_719 q_720 q_1 ⟨by decide, by decide, by decide +kernel⟩ rfl ⟨rfl, rfl⟩ hR hcs rfl hW hdg) (fun r M' H1 locs1 hr hk B1 => kk r M' hr H1 locs1 hk B1)
def w_X6_append (M : jM) (o : Int) (a1 : Int) (k : Int → jM → Prop) : Prop := (if a1 < 32 then (k (-1000002) M) else (if a1 ≤ 126 then (if (M (o + 237) 1) < 90 then (w_X3_put M (o + 237) a1 (fun M1 => (k (M1 (o + 237) 1) M1))) else (k (-1000004) M)) else (k (-1000002) M)))
set_option maxHeartbeats 4000000 in
set_option maxRecDepth 100000 in
theorem m_X6_append {l : Launch} {G : jG} {M : jM} {o a1 : Int} {k : Int → jM → Prop} (o_M : jOK M) (k_o : jK o = 7) (r_a1 : jR a1) (h : w_X6_append M o a1 k) : Met l yX6_append (wsG yX6_append cX6_append 2 (some .int)) (rmm 1 21) (jPc G M [.ref (jD G o), .int (jI a1)]) (qI G k) 0 0 (gA G) := by
  refine jm_start RX6 rfl (by decide) (Nat.le_of_ble_eq_true rfl) o_M ?_
  intro p e s m args below meth c ls C hr hlocks hl B
  have hl : lv_has ls 2 [(0, .ref (jD G o)), (1, .int (jI a1))] := hl
  unfold w_X6_append at h
  refine lv_iload_n C.1 C.2.1 dX6_append_0 rfl (lv_at hl 1 rfl) ?_
  refine jr_bipush C dX6_append_1 (by decide) ?_
  refine jr_icmp_lt (tgt := 12) C r_a1 (jkc rfl) h dX6_append_3 (by decide) (fun hc3 h => ?_) (fun hc3 h => ?_)
  · refine jr_ldc (n := -1000002) C q_237 (by decide) dX6_append_12 ?_
    exact jr_iret C B hr hlocks (jkc rfl) h dX6_append_14
  · refine lv_iload_n C.1 C.2.1 dX6_append_6 rfl (lv_at hl 1 rfl) ?_
    refine jr_bipush C dX6_append_7 (by decide) ?_
    refine jr_icmp_le (tgt := 15) C r_a1 (jkc rfl) h dX6_append_9 (by decide) (fun hc9 h => ?_) (fun hc9 h => ?_)
    · refine lv_aload_n C.1 C.2.1 dX6_append_15 rfl (lv_at hl 0 rfl) ?_
      refine gf_X6_29 C B k_o dX6_append_16 ?_
      refine gf_X6_227 C B (ko_X6_3 k_o) dX6_append_19 ?_
      refine jr_bipush C dX6_append_22 (by decide) ?_
      refine jr_icmp_lt (tgt := 30) C (o_M (o + 237) 1).1 (jkc rfl) h dX6_append_24 (by decide) (fun hc24 h => ?_) (fun hc24 h => ?_)
      · refine lv_aload_n C.1 C.2.1 dX6_append_30 rfl (lv_at hl 0 rfl) ?_
        refine gf_X6_29 C B k_o dX6_append_31 ?_
        refine lv_iload_n C.1 C.2.1 dX6_append_34 rfl (lv_at hl 1 rfl) ?_
        refine cl_X3_put C hl.1 B q_548 ⟨Nat.le_of_ble_eq_true rfl, Nat.le_of_ble_eq_true rfl⟩ ⟨Nat.zero_le _, Nat.zero_le _⟩ (Nat.le_of_ble_eq_true rfl) (ko_X6_3 k_o) r_a1 h dX6_append_35 (fun M1 _ _ h B => ?_)
        have o_M1 := B.2.2
        refine lv_aload_n C.1 C.2.1 dX6_append_38 rfl (lv_at hl 0 rfl) ?_
        refine gf_X6_29 C B k_o dX6_append_39 ?_
        refine gf_X6_227 C B (ko_X6_3 k_o) dX6_append_42 ?_
        exact jr_iret C B hr hlocks (o_M1 (o + 237) 1).1 h dX6_append_45
      · refine jr_ldc (n := -1000004) C q_448 (by decide) dX6_append_27 ?_
        exact jr_iret C B hr hlocks (jkc rfl) h dX6_append_29
    · refine jr_ldc (n := -1000002) C q_237 (by decide) dX6_append_12 ?_
      exact jr_iret C B hr hlocks (jkc rfl) h dX6_append_14
theorem cl_X6_append {p : Program} {l : Launch} {e : Env} {R : Room} {s : State} {m : MethodId} {args : Array Value} {below : List Frame} {meth : Method} {c : Code} {H : Heap} {locs : List Loc} {cells slots : Nat} {Q : State → Prop} {cc : ByteArray} {nL : Nat} {own : String} {G : jG} {H0 : Heap} {pc idx : Nat} {ls : Array Slot} {rest : List Value} {M : jM} {o a1 : Int} {k : Int → jM → Prop} (C : Cx G p s args m c cc nL own) (hl : ls.size = nL) (B : Hp G M H0 H locs) (q1 : Cond.methodLink own idx yX6_append ∈ tb) (hR : (rmm 1 21).frames + 1 ≤ R.frames ∧ 8 + (2 + 11) + (rmm 1 21).locals ≤ R.locals) (hcs : cells ≤ R.cells ∧ slots ≤ R.slots) (hW : (rest.map fun v => v.category).sum ≤ 8) (k_o : jK o = 7) (r_a1 : jR a1) (h : w_X6_append M o a1 k) (hdg : decode cc pc = .ok (.invokevirtual idx, 3)) (kk : ∀ (r : Int) (M' : jM), jR r → ∀ (H1 : Heap) (locs1 : List Loc), k r M' → Hp G M' H0 H1 locs1 → W p l e R s m args below meth c H1 locs1 cells slots Q (F0 m (pc + 3) ls (.int (jI r) :: rest))) : W p l e R s m args below meth c H locs cells slots Q (F0 m pc ls (.int (jI a1) :: .ref (jD G o) :: rest)) :=
  jr_callI B (jr_runV (o := o) (As := [.int (jI a1)]) (n := 1) C hl B (m_X6_append B.2.2 k_o r_a1 h) (jE7 k_o) (by omega) rfl q1 q_545 q_546 q_547 q_1 ⟨by decide, by decide, by decide +kernel⟩ rfl ⟨rfl, rfl⟩ hR hcs rfl hW hdg) (fun r M' H1 locs1 hr hk B1 => kk r M' hr H1 locs1 hk B1)
def w_X6_clearText (M : jM) (o : Int) (k : Int → jM → Prop) : Prop := (jL (M (o + 237) 1) (fun x1 => (jL (jU M (o + 237) 1 0) (fun M2 => (k x1 M2)))))
set_option maxHeartbeats 4000000 in
set_option maxRecDepth 100000 in
theorem m_X6_clearText {l : Launch} {G : jG} {M : jM} {o : Int} {k : Int → jM → Prop} (o_M : jOK M) (k_o : jK o = 7) (h : w_X6_clearText M o k) : Met l yX6_clearText (wsG yX6_clearText cX6_clearText 2 (some .int)) (rmm 0 0) (jPc G M [.ref (jD G o)]) (qI G k) 0 0 (gA G) := by
  refine jm_start RX6 rfl (by decide) (Nat.le_of_ble_eq_true rfl) o_M ?_
  intro p e s m args below meth c ls C hr hlocks hl B
  have hl : lv_has ls 2 [(0, .ref (jD G o))] := hl
  unfold w_X6_clearText at h
  refine lv_aload_n C.1 C.2.1 dX6_clearText_0 rfl (lv_at hl 0 rfl) ?_
  refine gf_X6_29 C B k_o dX6_clearText_1 ?_
  refine gf_X6_227 C B (ko_X6_3 k_o) dX6_clearText_4 ?_
  refine jr_nm h (o_M (o + 237) 1).1 (fun x1 h r_x1 => ?_)
  refine lv_istore_n (lv' := [(1, .int (jI x1)), (0, .ref (jD G o))]) C.1 C.2.1 dX6_clearText_7 rfl hl (by decide) rfl (fun ls hl => ?_)
  refine lv_aload_n C.1 C.2.1 dX6_clearText_8 rfl (lv_at hl 1 rfl) ?_
  refine gf_X6_29 C B k_o dX6_clearText_9 ?_
  refine jr_iconst C dX6_clearText_12 ?_
  refine pf_X6_227 C B (ko_X6_3 k_o) (jkc rfl) h dX6_clearText_13 (fun M2 _ _ h B => ?_)
  have o_M2 := B.2.2
  refine lv_iload_n C.1 C.2.1 dX6_clearText_16 rfl (lv_at hl 0 rfl) ?_
  exact jr_iret C B hr hlocks r_x1 h dX6_clearText_17
theorem cl_X6_clearText {p : Program} {l : Launch} {e : Env} {R : Room} {s : State} {m : MethodId} {args : Array Value} {below : List Frame} {meth : Method} {c : Code} {H : Heap} {locs : List Loc} {cells slots : Nat} {Q : State → Prop} {cc : ByteArray} {nL : Nat} {own : String} {G : jG} {H0 : Heap} {pc idx : Nat} {ls : Array Slot} {rest : List Value} {M : jM} {o : Int} {k : Int → jM → Prop} (C : Cx G p s args m c cc nL own) (hl : ls.size = nL) (B : Hp G M H0 H locs) (q1 : Cond.methodLink own idx yX6_clearText ∈ tb) (hR : (rmm 0 0).frames + 1 ≤ R.frames ∧ 8 + (2 + 11) + (rmm 0 0).locals ≤ R.locals) (hcs : cells ≤ R.cells ∧ slots ≤ R.slots) (hW : (rest.map fun v => v.category).sum ≤ 8) (k_o : jK o = 7) (h : w_X6_clearText M o k) (hdg : decode cc pc = .ok (.invokevirtual idx, 3)) (kk : ∀ (r : Int) (M' : jM), jR r → ∀ (H1 : Heap) (locs1 : List Loc), k r M' → Hp G M' H0 H1 locs1 → W p l e R s m args below meth c H1 locs1 cells slots Q (F0 m (pc + 3) ls (.int (jI r) :: rest))) : W p l e R s m args below meth c H locs cells slots Q (F0 m pc ls (.ref (jD G o) :: rest)) :=
  jr_callI B (jr_runV (o := o) (As := []) (n := 0) C hl B (m_X6_clearText B.2.2 k_o h) (jE7 k_o) (by omega) rfl q1 q_541 q_542 q_543 q_1 ⟨by decide, by decide, by decide +kernel⟩ rfl ⟨rfl, rfl⟩ hR hcs rfl hW hdg) (fun r M' H1 locs1 hr hk B1 => kk r M' hr H1 locs1 hk B1)
def w_X6_fault (N : Nat) (M : jM) (o : Int) (k : Int → jM → Prop) : Prop := (w_X5_read N M (o + 241) (o + 237) (fun x1 M2 => (k x1 M2)))
set_option maxHeartbeats 4000000 in
set_option maxRecDepth 100000 in
theorem m_X6_fault {l : Launch} {G : jG} {N : Nat} {M : jM} {o : Int} {k : Int → jM → Prop} (o_M : jOK M) (k_o : jK o = 7) (h : w_X6_fault N M o k) : Met l yX6_fault (wsG yX6_fault cX6_fault 1 (some .int)) (rmm 7 173) (jPc G M [.ref (jD G o)]) (qI G k) 0 0 (gA G) := by
  refine jm_start RX6 rfl (by decide) (Nat.le_of_ble_eq_true rfl) o_M ?_
  intro p e s m args below meth c ls C hr hlocks hl B
  have hl : lv_has ls 1 [(0, .ref (jD G o))] := hl
  unfold w_X6_fault at h
  refine lv_aload_n C.1 C.2.1 dX6_fault_0 rfl (lv_at hl 0 rfl) ?_
  refine gf_X6_39 C B k_o dX6_fault_1 ?_
  refine lv_aload_n C.1 C.2.1 dX6_fault_4 rfl (lv_at hl 0 rfl) ?_
  refine gf_X6_29 C B k_o dX6_fault_5 ?_
  refine cl_X5_read C hl.1 B q_559 ⟨Nat.le_of_ble_eq_true rfl, Nat.le_of_ble_eq_true rfl⟩ ⟨Nat.zero_le _, Nat.zero_le _⟩ (Nat.le_of_ble_eq_true rfl) (ko_X6_5 k_o) (ko_X6_3 k_o) h dX6_fault_8 (fun x1 M2 r_x1 _ _ h B => ?_)
  have o_M2 := B.2.2
  exact jr_iret C B hr hlocks r_x1 h dX6_fault_11
theorem cl_X6_fault {p : Program} {l : Launch} {e : Env} {R : Room} {s : State} {m : MethodId} {args : Array Value} {below : List Frame} {meth : Method} {c : Code} {H : Heap} {locs : List Loc} {cells slots : Nat} {Q : State → Prop} {cc : ByteArray} {nL : Nat} {own : String} {G : jG} {H0 : Heap} {pc idx : Nat} {ls : Array Slot} {rest : List Value} {N : Nat} {M : jM} {o : Int} {k : Int → jM → Prop} (C : Cx G p s args m c cc nL own) (hl : ls.size = nL) (B : Hp G M H0 H locs) (q1 : Cond.methodLink own idx yX6_fault ∈ tb) (hR : (rmm 7 173).frames + 1 ≤ R.frames ∧ 8 + (1 + 11) + (rmm 7 173).locals ≤ R.locals) (hcs : cells ≤ R.cells ∧ slots ≤ R.slots) (hW : (rest.map fun v => v.category).sum ≤ 8) (k_o : jK o = 7) (h : w_X6_fault N M o k) (hdg : decode cc pc = .ok (.invokevirtual idx, 3)) (kk : ∀ (r : Int) (M' : jM), jR r → ∀ (H1 : Heap) (locs1 : List Loc), k r M' → Hp G M' H0 H1 locs1 → W p l e R s m args below meth c H1 locs1 cells slots Q (F0 m (pc + 3) ls (.int (jI r) :: rest))) : W p l e R s m args below meth c H locs cells slots Q (F0 m pc ls (.ref (jD G o) :: rest)) :=
  jr_callI B (jr_runV (o := o) (As := []) (n := 0) C hl B (m_X6_fault B.2.2 k_o h) (jE7 k_o) (by omega) rfl q1 q_556 q_557 q_558 q_1 ⟨by decide, by decide, by decide +kernel⟩ rfl ⟨rfl, rfl⟩ hR hcs rfl hW hdg) (fun r M' H1 locs1 hr hk B1 => kk r M' hr H1 locs1 hk B1)
def lp_X6_printField_14 (o : Int) (a1 : Int) (a2 : Int) (x1 : Int) (kx14 : jM → Prop) : Nat → Int → jM → Prop
  | 0, _, _ => False
  | n + 1, x5, M6 => (w_X1_subCount M6 a1 a2 x1 (fun x9 => (if x5 < x9 then (if x5 ≤ 0 then (if x1 ≤ 0 then (w_X1_numberOf M6 a1 a2 x1 x5 (fun x10 => (w_X3_putNumber M6 (o + 239) x10 (fun M11 => (jL (jW (x5 + 1)) (fun x12 => (lp_X6_printField_14 o a1 a2 x1 kx14 n x12 M11))))))) else (w_X3_put M6 (o + 239) 93 (fun M13 => (w_X1_numberOf M13 a1 a2 x1 x5 (fun x14 => (w_X3_putNumber M13 (o + 239) x14 (fun M15 => (jL (jW (x5 + 1)) (fun x16 => (lp_X6_printField_14 o a1 a2 x1 kx14 n x16 M15)))))))))) else (w_X3_put M6 (o + 239) 47 (fun M17 => (w_X1_numberOf M17 a1 a2 x1 x5 (fun x18 => (w_X3_putNumber M17 (o + 239) x18 (fun M19 => (jL (jW (x5 + 1)) (fun x20 => (lp_X6_printField_14 o a1 a2 x1 kx14 n x20 M19)))))))))) else (kx14 M6))))
def lp_X6_printField_2 (N : Nat) (o : Int) (a1 : Int) (a2 : Int) (kx2 : jM → Prop) : Nat → Int → jM → Prop
  | 0, _, _ => False
  | n + 1, x1, M2 => (w_X1_valueCount M2 a1 a2 (fun x4 => (if x1 < x4 then (lp_X6_printField_14 o a1 a2 x1 (fun (M7 : jM) => (jL (jW (x1 + 1)) (fun x8 => (lp_X6_printField_2 N o a1 a2 kx2 n x8 M7)))) N 0 M2) else (kx2 M2))))
def w_X6_printField (N : Nat) (M : jM) (o : Int) (a1 : Int) (a2 : Int) (k : jM → Prop) : Prop := (lp_X6_printField_2 N o a1 a2 (fun (M3 : jM) => (k M3)) N 0 M)
set_option maxHeartbeats 4000000 in
set_option maxRecDepth 100000 in
theorem m_X6_printField {l : Launch} {G : jG} {N : Nat} {M : jM} {o a1 a2 : Int} {k : jM → Prop} (o_M : jOK M) (k_o : jK o = 7) (k_a1 : jK a1 = 2) (r_a2 : jR a2) (h : w_X6_printField N M o a1 a2 k) : Met l yX6_printField (wsG yX6_printField cX6_printField 5 none) (rmm 2 62) (jPc G M [.ref (jD G o), .ref (jD G a1), .int (jI a2)]) (qV G k) 0 0 (gA G) := by
  refine jm_start RX6 rfl (by decide) (Nat.le_of_ble_eq_true rfl) o_M ?_
  intro p e s m args below meth c ls C hr hlocks hl B
  have hl : lv_has ls 5 [(0, .ref (jD G o)), (1, .ref (jD G a1)), (2, .int (jI a2))] := hl
  unfold w_X6_printField at h
  refine jr_iconst C dX6_printField_0 ?_
  refine lv_istore_n (lv' := [(3, .int (jI 0)), (0, .ref (jD G o)), (1, .ref (jD G a1)), (2, .int (jI a2))]) C.1 C.2.1 dX6_printField_1 rfl hl (by decide) rfl (fun ls hl => ?_)
  obtain ⟨kx2, hkx2, h⟩ : ∃ kx2 : jM → Prop, (∀ (M3 : jM) (H : Heap) (locs : List Loc) (ls : Array Slot), kx2 M3 → Hp G M3 s.heap H locs → lv_has ls 5 [] → W p l e (rmm 2 62) s m args below meth c H locs 0 0 (MQ below (qV G k) args s 0 0 (gA G)) (F0 m 82 ls [])) ∧ lp_X6_printField_2 N o a1 a2 kx2 N 0 M := by
    refine ⟨_, ?_, h⟩
    intro M3 H locs ls h  B hl
    have o_M3 := B.2.2
    exact jr_vret C B hr hlocks h dX6_printField_82
  have hL2 : ∀ (n : Nat) (x1 : Int) (M2 : jM) (H : Heap) (locs : List Loc) (ls : Array Slot), lp_X6_printField_2 N o a1 a2 kx2 n x1 M2 → jR x1 → Hp G M2 s.heap H locs → lv_has ls 5 [(3, .int (jI x1)), (0, .ref (jD G o)), (1, .ref (jD G a1)), (2, .int (jI a2))] → W p l e (rmm 2 62) s m args below meth c H locs 0 0 (MQ below (qV G k) args s 0 0 (gA G)) (F0 m 2 ls []) := by
    intro n
    induction n with
    | zero => intro x1 M2 H locs ls h; exact (show False from h).elim
    | succ n ih2 =>
      intro x1 M2 H locs ls h r_x1 B hl
      have o_M2 := B.2.2
      rw [lp_X6_printField_2] at h
      refine lv_iload_n C.1 C.2.1 dX6_printField_2 rfl (lv_at hl 0 rfl) ?_
      refine lv_aload_n C.1 C.2.1 dX6_printField_3 rfl (lv_at hl 2 rfl) ?_
      refine lv_iload_n C.1 C.2.1 dX6_printField_4 rfl (lv_at hl 3 rfl) ?_
      refine cl_X1_valueCount C hl.1 B q_279 ⟨Nat.le_of_ble_eq_true rfl, Nat.le_of_ble_eq_true rfl⟩ ⟨Nat.zero_le _, Nat.zero_le _⟩ (Nat.le_of_ble_eq_true rfl) k_a1 r_a2 h dX6_printField_5 (fun x4 r_x4 _ _ h B => ?_)
      refine jr_icmp_ge (tgt := 82) C r_x1 r_x4 h dX6_printField_8 (by decide) (fun hc8 h => ?_) (fun hc8 h => ?_)
      · refine jr_iconst C dX6_printField_11 ?_
        refine lv_istore (lv' := [(4, .int (jI 0)), (3, .int (jI x1)), (0, .ref (jD G o)), (1, .ref (jD G a1)), (2, .int (jI a2))]) C.1 C.2.1 dX6_printField_12 hl (by decide) rfl (fun ls hl => ?_)
        obtain ⟨kx14, hkx14, h⟩ : ∃ kx14 : jM → Prop, (∀ (M7 : jM) (H : Heap) (locs : List Loc) (ls : Array Slot), kx14 M7 → Hp G M7 s.heap H locs → lv_has ls 5 [(3, .int (jI x1)), (0, .ref (jD G o)), (1, .ref (jD G a1)), (2, .int (jI a2))] → W p l e (rmm 2 62) s m args below meth c H locs 0 0 (MQ below (qV G k) args s 0 0 (gA G)) (F0 m 76 ls [])) ∧ lp_X6_printField_14 o a1 a2 x1 kx14 N 0 M2 := by
          refine ⟨_, ?_, h⟩
          intro M7 H locs ls h  B hl
          have o_M7 := B.2.2
          refine jr_iinc (k := 0) (lv' := fun x8 => [(3, .int (jI x8)), (0, .ref (jD G o)), (1, .ref (jD G a1)), (2, .int (jI a2))]) C h hl rfl (by decide) (fun _ => rfl) dX6_printField_76 (fun x8 h r_x8 ls hl => ?_)
          refine lv_goto (tgt := 2) C.1 C.2.1 dX6_printField_79 (by decide) ?_
          exact ih2 _ _ _ _ _ h r_x8 B (lv_sub hl [0, 1, 2, 3] rfl)
        have hL14 : ∀ (n : Nat) (x5 : Int) (M6 : jM) (H : Heap) (locs : List Loc) (ls : Array Slot), lp_X6_printField_14 o a1 a2 x1 kx14 n x5 M6 → jR x5 → Hp G M6 s.heap H locs → lv_has ls 5 [(4, .int (jI x5)), (3, .int (jI x1)), (0, .ref (jD G o)), (1, .ref (jD G a1)), (2, .int (jI a2))] → W p l e (rmm 2 62) s m args below meth c H locs 0 0 (MQ below (qV G k) args s 0 0 (gA G)) (F0 m 14 ls []) := by
          intro n
          induction n with
          | zero => intro x5 M6 H locs ls h; exact (show False from h).elim
          | succ n ih14 =>
            intro x5 M6 H locs ls h r_x5 B hl
            have o_M6 := B.2.2
            rw [lp_X6_printField_14] at h
            refine lv_iload C.1 C.2.1 dX6_printField_14 (lv_at hl 0 rfl) ?_
            refine lv_aload_n C.1 C.2.1 dX6_printField_16 rfl (lv_at hl 3 rfl) ?_
            refine lv_iload_n C.1 C.2.1 dX6_printField_17 rfl (lv_at hl 4 rfl) ?_
            refine lv_iload_n C.1 C.2.1 dX6_printField_18 rfl (lv_at hl 1 rfl) ?_
            refine cl_X1_subCount C hl.1 B q_292 ⟨Nat.le_of_ble_eq_true rfl, Nat.le_of_ble_eq_true rfl⟩ ⟨Nat.zero_le _, Nat.zero_le _⟩ (Nat.le_of_ble_eq_true rfl) k_a1 r_a2 r_x1 h dX6_printField_19 (fun x9 r_x9 _ _ h B => ?_)
            refine jr_icmp_ge (tgt := 76) C r_x5 r_x9 h dX6_printField_22 (by decide) (fun hc22 h => ?_) (fun hc22 h => ?_)
            · refine lv_iload C.1 C.2.1 dX6_printField_25 (lv_at hl 0 rfl) ?_
              refine jr_if_le (tgt := 42) C r_x5 h dX6_printField_27 (by decide) (fun hc27 h => ?_) (fun hc27 h => ?_)
              · refine lv_iload_n C.1 C.2.1 dX6_printField_42 rfl (lv_at hl 1 rfl) ?_
                refine jr_if_le (tgt := 55) C r_x1 h dX6_printField_43 (by decide) (fun hc43 h => ?_) (fun hc43 h => ?_)
                · refine lv_aload_n C.1 C.2.1 dX6_printField_55 rfl (lv_at hl 2 rfl) ?_
                  refine gf_X6_33 C B k_o dX6_printField_56 ?_
                  refine lv_aload_n C.1 C.2.1 dX6_printField_59 rfl (lv_at hl 3 rfl) ?_
                  refine lv_iload_n C.1 C.2.1 dX6_printField_60 rfl (lv_at hl 4 rfl) ?_
                  refine lv_iload_n C.1 C.2.1 dX6_printField_61 rfl (lv_at hl 1 rfl) ?_
                  refine lv_iload C.1 C.2.1 dX6_printField_62 (lv_at hl 0 rfl) ?_
                  refine cl_X1_numberOf C hl.1 B q_306 ⟨Nat.le_of_ble_eq_true rfl, Nat.le_of_ble_eq_true rfl⟩ ⟨Nat.zero_le _, Nat.zero_le _⟩ (Nat.le_of_ble_eq_true rfl) k_a1 r_a2 r_x1 r_x5 h dX6_printField_64 (fun x10 r_x10 _ _ h B => ?_)
                  refine cl_X3_putNumber C hl.1 B q_640 ⟨Nat.le_of_ble_eq_true rfl, Nat.le_of_ble_eq_true rfl⟩ ⟨Nat.zero_le _, Nat.zero_le _⟩ (Nat.le_of_ble_eq_true rfl) (ko_X6_4 k_o) r_x10 h dX6_printField_67 (fun M11 _ _ h B => ?_)
                  have o_M11 := B.2.2
                  refine jr_iinc (k := 0) (lv' := fun x12 => [(4, .int (jI x12)), (3, .int (jI x1)), (0, .ref (jD G o)), (1, .ref (jD G a1)), (2, .int (jI a2))]) C h hl rfl (by decide) (fun _ => rfl) dX6_printField_70 (fun x12 h r_x12 ls hl => ?_)
                  refine lv_goto (tgt := 14) C.1 C.2.1 dX6_printField_73 (by decide) ?_
                  exact ih14 _ _ _ _ _ h r_x12 B (lv_sub hl [0, 1, 2, 3, 4] rfl)
                · refine lv_aload_n C.1 C.2.1 dX6_printField_46 rfl (lv_at hl 2 rfl) ?_
                  refine gf_X6_33 C B k_o dX6_printField_47 ?_
                  refine jr_bipush C dX6_printField_50 (by decide) ?_
                  refine cl_X3_put C hl.1 B q_548 ⟨Nat.le_of_ble_eq_true rfl, Nat.le_of_ble_eq_true rfl⟩ ⟨Nat.zero_le _, Nat.zero_le _⟩ (Nat.le_of_ble_eq_true rfl) (ko_X6_4 k_o) (jkc rfl) h dX6_printField_52 (fun M13 _ _ h B => ?_)
                  have o_M13 := B.2.2
                  refine lv_aload_n C.1 C.2.1 dX6_printField_55 rfl (lv_at hl 2 rfl) ?_
                  refine gf_X6_33 C B k_o dX6_printField_56 ?_
                  refine lv_aload_n C.1 C.2.1 dX6_printField_59 rfl (lv_at hl 3 rfl) ?_
                  refine lv_iload_n C.1 C.2.1 dX6_printField_60 rfl (lv_at hl 4 rfl) ?_
                  refine lv_iload_n C.1 C.2.1 dX6_printField_61 rfl (lv_at hl 1 rfl) ?_
                  refine lv_iload C.1 C.2.1 dX6_printField_62 (lv_at hl 0 rfl) ?_
                  refine cl_X1_numberOf C hl.1 B q_306 ⟨Nat.le_of_ble_eq_true rfl, Nat.le_of_ble_eq_true rfl⟩ ⟨Nat.zero_le _, Nat.zero_le _⟩ (Nat.le_of_ble_eq_true rfl) k_a1 r_a2 r_x1 r_x5 h dX6_printField_64 (fun x14 r_x14 _ _ h B => ?_)
                  refine cl_X3_putNumber C hl.1 B q_640 ⟨Nat.le_of_ble_eq_true rfl, Nat.le_of_ble_eq_true rfl⟩ ⟨Nat.zero_le _, Nat.zero_le _⟩ (Nat.le_of_ble_eq_true rfl) (ko_X6_4 k_o) r_x14 h dX6_printField_67 (fun M15 _ _ h B => ?_)
                  have o_M15 := B.2.2
                  refine jr_iinc (k := 0) (lv' := fun x16 => [(4, .int (jI x16)), (3, .int (jI x1)), (0, .ref (jD G o)), (1, .ref (jD G a1)), (2, .int (jI a2))]) C h hl rfl (by decide) (fun _ => rfl) dX6_printField_70 (fun x16 h r_x16 ls hl => ?_)
                  refine lv_goto (tgt := 14) C.1 C.2.1 dX6_printField_73 (by decide) ?_
                  exact ih14 _ _ _ _ _ h r_x16 B (lv_sub hl [0, 1, 2, 3, 4] rfl)
              · refine lv_aload_n C.1 C.2.1 dX6_printField_30 rfl (lv_at hl 2 rfl) ?_
                refine gf_X6_33 C B k_o dX6_printField_31 ?_
                refine jr_bipush C dX6_printField_34 (by decide) ?_
                refine cl_X3_put C hl.1 B q_548 ⟨Nat.le_of_ble_eq_true rfl, Nat.le_of_ble_eq_true rfl⟩ ⟨Nat.zero_le _, Nat.zero_le _⟩ (Nat.le_of_ble_eq_true rfl) (ko_X6_4 k_o) (jkc rfl) h dX6_printField_36 (fun M17 _ _ h B => ?_)
                have o_M17 := B.2.2
                refine lv_goto (tgt := 55) C.1 C.2.1 dX6_printField_39 (by decide) ?_
                refine lv_aload_n C.1 C.2.1 dX6_printField_55 rfl (lv_at hl 2 rfl) ?_
                refine gf_X6_33 C B k_o dX6_printField_56 ?_
                refine lv_aload_n C.1 C.2.1 dX6_printField_59 rfl (lv_at hl 3 rfl) ?_
                refine lv_iload_n C.1 C.2.1 dX6_printField_60 rfl (lv_at hl 4 rfl) ?_
                refine lv_iload_n C.1 C.2.1 dX6_printField_61 rfl (lv_at hl 1 rfl) ?_
                refine lv_iload C.1 C.2.1 dX6_printField_62 (lv_at hl 0 rfl) ?_
                refine cl_X1_numberOf C hl.1 B q_306 ⟨Nat.le_of_ble_eq_true rfl, Nat.le_of_ble_eq_true rfl⟩ ⟨Nat.zero_le _, Nat.zero_le _⟩ (Nat.le_of_ble_eq_true rfl) k_a1 r_a2 r_x1 r_x5 h dX6_printField_64 (fun x18 r_x18 _ _ h B => ?_)
                refine cl_X3_putNumber C hl.1 B q_640 ⟨Nat.le_of_ble_eq_true rfl, Nat.le_of_ble_eq_true rfl⟩ ⟨Nat.zero_le _, Nat.zero_le _⟩ (Nat.le_of_ble_eq_true rfl) (ko_X6_4 k_o) r_x18 h dX6_printField_67 (fun M19 _ _ h B => ?_)
                have o_M19 := B.2.2
                refine jr_iinc (k := 0) (lv' := fun x20 => [(4, .int (jI x20)), (3, .int (jI x1)), (0, .ref (jD G o)), (1, .ref (jD G a1)), (2, .int (jI a2))]) C h hl rfl (by decide) (fun _ => rfl) dX6_printField_70 (fun x20 h r_x20 ls hl => ?_)
                refine lv_goto (tgt := 14) C.1 C.2.1 dX6_printField_73 (by decide) ?_
                exact ih14 _ _ _ _ _ h r_x20 B (lv_sub hl [0, 1, 2, 3, 4] rfl)
            · exact hkx14 _ _ _ _ h  B (lv_sub hl [1, 2, 3, 4] rfl)
        exact hL14 N _ _ _ _ _ h (jkc rfl) B (lv_sub hl [0, 1, 2, 3, 4] rfl)
      · exact hkx2 _ _ _ _ h  B (lv_sub hl [] rfl)
  exact hL2 N _ _ _ _ _ h (jkc rfl) B (lv_sub hl [0, 1, 2, 3] rfl)
theorem cl_X6_printField {p : Program} {l : Launch} {e : Env} {R : Room} {s : State} {m : MethodId} {args : Array Value} {below : List Frame} {meth : Method} {c : Code} {H : Heap} {locs : List Loc} {cells slots : Nat} {Q : State → Prop} {cc : ByteArray} {nL : Nat} {own : String} {G : jG} {H0 : Heap} {pc idx : Nat} {ls : Array Slot} {rest : List Value} {N : Nat} {M : jM} {o a1 a2 : Int} {k : jM → Prop} (C : Cx G p s args m c cc nL own) (hl : ls.size = nL) (B : Hp G M H0 H locs) (q1 : Cond.methodLink own idx yX6_printField ∈ tb) (hR : (rmm 2 62).frames + 1 ≤ R.frames ∧ 8 + (5 + 11) + (rmm 2 62).locals ≤ R.locals) (hcs : cells ≤ R.cells ∧ slots ≤ R.slots) (hW : (rest.map fun v => v.category).sum ≤ 8) (k_o : jK o = 7) (k_a1 : jK a1 = 2) (r_a2 : jR a2) (h : w_X6_printField N M o a1 a2 k) (hdg : decode cc pc = .ok (.invokevirtual idx, 3)) (kk : ∀ (M' : jM) (H1 : Heap) (locs1 : List Loc), k M' → Hp G M' H0 H1 locs1 → W p l e R s m args below meth c H1 locs1 cells slots Q (F0 m (pc + 3) ls rest)) : W p l e R s m args below meth c H locs cells slots Q (F0 m pc ls (.int (jI a2) :: .ref (jD G a1) :: .ref (jD G o) :: rest)) :=
  jr_callV B (jr_runV (o := o) (As := [.ref (jD G a1), .int (jI a2)]) (n := 2) C hl B (m_X6_printField B.2.2 k_o k_a1 r_a2 h) (jE7 k_o) (by omega) rfl q1 q_638 qs_21 q_639 q_1 ⟨by decide, by decide, by decide +kernel⟩ rfl ⟨rfl, rfl⟩ hR hcs rfl hW hdg) (fun M' H1 locs1 hk B1 => kk M' H1 locs1 hk B1)
def lp_X6_print_26 (N : Nat) (o : Int) (x1 : Int) (kx26 : jM → Prop) : Nat → Int → jM → Prop
  | 0, _, _ => False
  | n + 1, x3, M4 => (if x3 < 4 then (if x3 ≤ 0 then (w_X6_printField N M4 o x1 x3 (fun M6 => (jL (jW (x3 + 1)) (fun x7 => (lp_X6_print_26 N o x1 kx26 n x7 M6))))) else (w_X3_put M4 (o + 239) 94 (fun M8 => (w_X6_printField N M8 o x1 x3 (fun M9 => (jL (jW (x3 + 1)) (fun x10 => (lp_X6_print_26 N o x1 kx26 n x10 M9)))))))) else (kx26 M4))
def w_X6_print (N : Nat) (M : jM) (o : Int) (a1 : Int) (k : Int → jM → Prop) : Prop := (w_X4_find N M (o + 1) a1 (fun x1 => (if x1 < 0 then (k (-1000001) M) else (jL (jU M (o + 239) 1 0) (fun M2 => (lp_X6_print_26 N o x1 (fun (M5 : jM) => (k (M5 (o + 239) 1) M5)) N 0 M2))))))
set_option maxHeartbeats 4000000 in
set_option maxRecDepth 100000 in
theorem m_X6_print {l : Launch} {G : jG} {N : Nat} {M : jM} {o a1 : Int} {k : Int → jM → Prop} (o_M : jOK M) (k_o : jK o = 7) (r_a1 : jR a1) (h : w_X6_print N M o a1 k) : Met l yX6_print (wsG yX6_print cX6_print 4 (some .int)) (rmm 3 86) (jPc G M [.ref (jD G o), .int (jI a1)]) (qI G k) 0 0 (gA G) := by
  refine jm_start RX6 rfl (by decide) (Nat.le_of_ble_eq_true rfl) o_M ?_
  intro p e s m args below meth c ls C hr hlocks hl B
  have hl : lv_has ls 4 [(0, .ref (jD G o)), (1, .int (jI a1))] := hl
  unfold w_X6_print at h
  refine lv_aload_n C.1 C.2.1 dX6_print_0 rfl (lv_at hl 0 rfl) ?_
  refine gf_X6_12 C B k_o dX6_print_1 ?_
  refine lv_iload_n C.1 C.2.1 dX6_print_4 rfl (lv_at hl 1 rfl) ?_
  refine cl_X4_find C hl.1 B q_271 ⟨Nat.le_of_ble_eq_true rfl, Nat.le_of_ble_eq_true rfl⟩ ⟨Nat.zero_le _, Nat.zero_le _⟩ (Nat.le_of_ble_eq_true rfl) (ko_X6_0 k_o) r_a1 h dX6_print_5 (fun x1 n_x1 _ _ h B => ?_)
  refine jr_astore_nN (lv' := [(2, jN G x1), (0, .ref (jD G o)), (1, .int (jI a1))]) C dX6_print_8 rfl hl (by decide) rfl (fun ls hl => ?_)
  refine jr_aload_nN C dX6_print_9 rfl (lv_at hl 0 rfl) ?_
  refine jr_ifnonnull (tgt := 16) C h dX6_print_10 (by decide) (fun hc10 h => ?_) (fun hc10 h => ?_)
  · refine jr_ldc (n := -1000001) C q_236 (by decide) dX6_print_13 ?_
    exact jr_iret C B hr hlocks (jkc rfl) h dX6_print_15
  · have k_x1 : jK x1 = 2 := n_x1.resolve_left hc10
    rw [jN_ref hc10] at hl
    refine lv_aload_n C.1 C.2.1 dX6_print_16 rfl (lv_at hl 1 rfl) ?_
    refine gf_X6_33 C B k_o dX6_print_17 ?_
    refine jr_iconst C dX6_print_20 ?_
    refine pf_X6_227 C B (ko_X6_4 k_o) (jkc rfl) h dX6_print_21 (fun M2 _ _ h B => ?_)
    have o_M2 := B.2.2
    refine jr_iconst C dX6_print_24 ?_
    refine lv_istore_n (lv' := [(3, .int (jI 0)), (2, .ref (jD G x1)), (0, .ref (jD G o)), (1, .int (jI a1))]) C.1 C.2.1 dX6_print_25 rfl hl (by decide) rfl (fun ls hl => ?_)
    obtain ⟨kx26, hkx26, h⟩ : ∃ kx26 : jM → Prop, (∀ (M5 : jM) (H : Heap) (locs : List Loc) (ls : Array Slot), kx26 M5 → Hp G M5 s.heap H locs → lv_has ls 4 [(0, .ref (jD G o))] → W p l e (rmm 3 86) s m args below meth c H locs 0 0 (MQ below (qI G k) args s 0 0 (gA G)) (F0 m 56 ls [])) ∧ lp_X6_print_26 N o x1 kx26 N 0 M2 := by
      refine ⟨_, ?_, h⟩
      intro M5 H locs ls h  B hl
      have o_M5 := B.2.2
      refine lv_aload_n C.1 C.2.1 dX6_print_56 rfl (lv_at hl 0 rfl) ?_
      refine gf_X6_33 C B k_o dX6_print_57 ?_
      refine gf_X6_227 C B (ko_X6_4 k_o) dX6_print_60 ?_
      exact jr_iret C B hr hlocks (o_M5 (o + 239) 1).1 h dX6_print_63
    have hL26 : ∀ (n : Nat) (x3 : Int) (M4 : jM) (H : Heap) (locs : List Loc) (ls : Array Slot), lp_X6_print_26 N o x1 kx26 n x3 M4 → jR x3 → Hp G M4 s.heap H locs → lv_has ls 4 [(3, .int (jI x3)), (2, .ref (jD G x1)), (0, .ref (jD G o))] → W p l e (rmm 3 86) s m args below meth c H locs 0 0 (MQ below (qI G k) args s 0 0 (gA G)) (F0 m 26 ls []) := by
      intro n
      induction n with
      | zero => intro x3 M4 H locs ls h; exact (show False from h).elim
      | succ n ih26 =>
        intro x3 M4 H locs ls h r_x3 B hl
        have o_M4 := B.2.2
        rw [lp_X6_print_26] at h
        refine lv_iload_n C.1 C.2.1 dX6_print_26 rfl (lv_at hl 0 rfl) ?_
        refine jr_iconst C dX6_print_27 ?_
        refine jr_icmp_ge (tgt := 56) C r_x3 (jkc rfl) h dX6_print_28 (by decide) (fun hc28 h => ?_) (fun hc28 h => ?_)
        · refine lv_iload_n C.1 C.2.1 dX6_print_31 rfl (lv_at hl 0 rfl) ?_
          refine jr_if_le (tgt := 44) C r_x3 h dX6_print_32 (by decide) (fun hc32 h => ?_) (fun hc32 h => ?_)
          · refine lv_aload_n C.1 C.2.1 dX6_print_44 rfl (lv_at hl 2 rfl) ?_
            refine lv_aload_n C.1 C.2.1 dX6_print_45 rfl (lv_at hl 1 rfl) ?_
            refine lv_iload_n C.1 C.2.1 dX6_print_46 rfl (lv_at hl 0 rfl) ?_
            refine cl_X6_printField C hl.1 B q_636 ⟨Nat.le_of_ble_eq_true rfl, Nat.le_of_ble_eq_true rfl⟩ ⟨Nat.zero_le _, Nat.zero_le _⟩ (Nat.le_of_ble_eq_true rfl) k_o k_x1 r_x3 h dX6_print_47 (fun M6 _ _ h B => ?_)
            have o_M6 := B.2.2
            refine jr_iinc (k := 0) (lv' := fun x7 => [(3, .int (jI x7)), (2, .ref (jD G x1)), (0, .ref (jD G o))]) C h hl rfl (by decide) (fun _ => rfl) dX6_print_50 (fun x7 h r_x7 ls hl => ?_)
            refine lv_goto (tgt := 26) C.1 C.2.1 dX6_print_53 (by decide) ?_
            exact ih26 _ _ _ _ _ h r_x7 B (lv_sub hl [0, 1, 2] rfl)
          · refine lv_aload_n C.1 C.2.1 dX6_print_35 rfl (lv_at hl 2 rfl) ?_
            refine gf_X6_33 C B k_o dX6_print_36 ?_
            refine jr_bipush C dX6_print_39 (by decide) ?_
            refine cl_X3_put C hl.1 B q_548 ⟨Nat.le_of_ble_eq_true rfl, Nat.le_of_ble_eq_true rfl⟩ ⟨Nat.zero_le _, Nat.zero_le _⟩ (Nat.le_of_ble_eq_true rfl) (ko_X6_4 k_o) (jkc rfl) h dX6_print_41 (fun M8 _ _ h B => ?_)
            have o_M8 := B.2.2
            refine lv_aload_n C.1 C.2.1 dX6_print_44 rfl (lv_at hl 2 rfl) ?_
            refine lv_aload_n C.1 C.2.1 dX6_print_45 rfl (lv_at hl 1 rfl) ?_
            refine lv_iload_n C.1 C.2.1 dX6_print_46 rfl (lv_at hl 0 rfl) ?_
            refine cl_X6_printField C hl.1 B q_636 ⟨Nat.le_of_ble_eq_true rfl, Nat.le_of_ble_eq_true rfl⟩ ⟨Nat.zero_le _, Nat.zero_le _⟩ (Nat.le_of_ble_eq_true rfl) k_o k_x1 r_x3 h dX6_print_47 (fun M9 _ _ h B => ?_)
            have o_M9 := B.2.2
            refine jr_iinc (k := 0) (lv' := fun x10 => [(3, .int (jI x10)), (2, .ref (jD G x1)), (0, .ref (jD G o))]) C h hl rfl (by decide) (fun _ => rfl) dX6_print_50 (fun x10 h r_x10 ls hl => ?_)
            refine lv_goto (tgt := 26) C.1 C.2.1 dX6_print_53 (by decide) ?_
            exact ih26 _ _ _ _ _ h r_x10 B (lv_sub hl [0, 1, 2] rfl)
        · exact hkx26 _ _ _ _ h  B (lv_sub hl [2] rfl)
    exact hL26 N _ _ _ _ _ h (jkc rfl) B (lv_sub hl [0, 1, 2] rfl)
theorem cl_X6_print {p : Program} {l : Launch} {e : Env} {R : Room} {s : State} {m : MethodId} {args : Array Value} {below : List Frame} {meth : Method} {c : Code} {H : Heap} {locs : List Loc} {cells slots : Nat} {Q : State → Prop} {cc : ByteArray} {nL : Nat} {own : String} {G : jG} {H0 : Heap} {pc idx : Nat} {ls : Array Slot} {rest : List Value} {N : Nat} {M : jM} {o a1 : Int} {k : Int → jM → Prop} (C : Cx G p s args m c cc nL own) (hl : ls.size = nL) (B : Hp G M H0 H locs) (q1 : Cond.methodLink own idx yX6_print ∈ tb) (hR : (rmm 3 86).frames + 1 ≤ R.frames ∧ 8 + (4 + 11) + (rmm 3 86).locals ≤ R.locals) (hcs : cells ≤ R.cells ∧ slots ≤ R.slots) (hW : (rest.map fun v => v.category).sum ≤ 8) (k_o : jK o = 7) (r_a1 : jR a1) (h : w_X6_print N M o a1 k) (hdg : decode cc pc = .ok (.invokevirtual idx, 3)) (kk : ∀ (r : Int) (M' : jM), jR r → ∀ (H1 : Heap) (locs1 : List Loc), k r M' → Hp G M' H0 H1 locs1 → W p l e R s m args below meth c H1 locs1 cells slots Q (F0 m (pc + 3) ls (.int (jI r) :: rest))) : W p l e R s m args below meth c H locs cells slots Q (F0 m pc ls (.int (jI a1) :: .ref (jD G o) :: rest)) :=
  jr_callI B (jr_runV (o := o) (As := [.int (jI a1)]) (n := 1) C hl B (m_X6_print B.2.2 k_o r_a1 h) (jE7 k_o) (by omega) rfl q1 q_633 q_634 q_635 q_1 ⟨by decide, by decide, by decide +kernel⟩ rfl ⟨rfl, rfl⟩ hR hcs rfl hW hdg) (fun r M' H1 locs1 hr hk B1 => kk r M' hr H1 locs1 hk B1)
def w_X6_undo (N : Nat) (M : jM) (o : Int) (k : Int → jM → Prop) : Prop := (if (M o 2) ≤ 0 then (k (-1000007) M) else (jL (jU M o 2 (jW ((M o 2) - 1))) (fun M1 => (jB (M1 o 2) 4 ∧ (w_X4_copyState N M1 (o + 1) (M1 (o + 48) (M1 o 2)) (fun M4 => (k (M4 o 2) M4)))))))
set_option maxHeartbeats 4000000 in
set_option maxRecDepth 100000 in
theorem m_X6_undo {l : Launch} {G : jG} {N : Nat} {M : jM} {o : Int} {k : Int → jM → Prop} (o_M : jOK M) (k_o : jK o = 7) (h : w_X6_undo N M o k) : Met l yX6_undo (wsG yX6_undo cX6_undo 1 (some .int)) (rmm 4 104) (jPc G M [.ref (jD G o)]) (qI G k) 0 0 (gA G) := by
  refine jm_start RX6 rfl (by decide) (Nat.le_of_ble_eq_true rfl) o_M ?_
  intro p e s m args below meth c ls C hr hlocks hl B
  have hl : lv_has ls 1 [(0, .ref (jD G o))] := hl
  unfold w_X6_undo at h
  refine lv_aload_n C.1 C.2.1 dX6_undo_0 rfl (lv_at hl 0 rfl) ?_
  refine gf_X6_20 C B k_o dX6_undo_1 ?_
  refine jr_if_gt (tgt := 10) C (o_M o 2).1 h dX6_undo_4 (by decide) (fun hc4 h => ?_) (fun hc4 h => ?_)
  · refine jr_ldc (n := -1000007) C q_199 (by decide) dX6_undo_7 ?_
    exact jr_iret C B hr hlocks (jkc rfl) h dX6_undo_9
  · refine lv_aload_n C.1 C.2.1 dX6_undo_10 rfl (lv_at hl 0 rfl) ?_
    refine lv_dup C.1 C.2.1 dX6_undo_11 rfl ?_
    refine gf_X6_20 C B k_o dX6_undo_12 ?_
    refine jr_iconst C dX6_undo_15 ?_
    refine jr_isub C dX6_undo_16 ?_
    refine pf_X6_20 C B k_o (jW_R _) h dX6_undo_17 (fun M1 _ _ h B => ?_)
    have o_M1 := B.2.2
    refine lv_aload_n C.1 C.2.1 dX6_undo_20 rfl (lv_at hl 0 rfl) ?_
    refine gf_X6_12 C B k_o dX6_undo_21 ?_
    refine lv_aload_n C.1 C.2.1 dX6_undo_24 rfl (lv_at hl 0 rfl) ?_
    refine gf_X6_16 C B k_o dX6_undo_25 ?_
    refine lv_aload_n C.1 C.2.1 dX6_undo_28 rfl (lv_at hl 0 rfl) ?_
    refine gf_X6_20 C B k_o dX6_undo_29 ?_
    obtain ⟨g2, h⟩ := h
    refine jr_sald C B 4 (jk1 (ko_X6_1 k_o) rfl) (jk2 (ko_X6_1 k_o) rfl) (o_M1 o 2).1 g2 dX6_undo_32 (fun kk3 => ?_)
    refine cl_X4_copyState C hl.1 B q_200 ⟨Nat.le_of_ble_eq_true rfl, Nat.le_of_ble_eq_true rfl⟩ ⟨Nat.zero_le _, Nat.zero_le _⟩ (Nat.le_of_ble_eq_true rfl) (ko_X6_0 k_o) kk3 h dX6_undo_33 (fun M4 _ _ h B => ?_)
    have o_M4 := B.2.2
    refine lv_aload_n C.1 C.2.1 dX6_undo_36 rfl (lv_at hl 0 rfl) ?_
    refine gf_X6_20 C B k_o dX6_undo_37 ?_
    exact jr_iret C B hr hlocks (o_M4 o 2).1 h dX6_undo_40
theorem cl_X6_undo {p : Program} {l : Launch} {e : Env} {R : Room} {s : State} {m : MethodId} {args : Array Value} {below : List Frame} {meth : Method} {c : Code} {H : Heap} {locs : List Loc} {cells slots : Nat} {Q : State → Prop} {cc : ByteArray} {nL : Nat} {own : String} {G : jG} {H0 : Heap} {pc idx : Nat} {ls : Array Slot} {rest : List Value} {N : Nat} {M : jM} {o : Int} {k : Int → jM → Prop} (C : Cx G p s args m c cc nL own) (hl : ls.size = nL) (B : Hp G M H0 H locs) (q1 : Cond.methodLink own idx yX6_undo ∈ tb) (hR : (rmm 4 104).frames + 1 ≤ R.frames ∧ 8 + (1 + 11) + (rmm 4 104).locals ≤ R.locals) (hcs : cells ≤ R.cells ∧ slots ≤ R.slots) (hW : (rest.map fun v => v.category).sum ≤ 8) (k_o : jK o = 7) (h : w_X6_undo N M o k) (hdg : decode cc pc = .ok (.invokevirtual idx, 3)) (kk : ∀ (r : Int) (M' : jM), jR r → ∀ (H1 : Heap) (locs1 : List Loc), k r M' → Hp G M' H0 H1 locs1 → W p l e R s m args below meth c H1 locs1 cells slots Q (F0 m (pc + 3) ls (.int (jI r) :: rest))) : W p l e R s m args below meth c H locs cells slots Q (F0 m pc ls (.ref (jD G o) :: rest)) :=
  jr_callI B (jr_runV (o := o) (As := []) (n := 0) C hl B (m_X6_undo B.2.2 k_o h) (jE7 k_o) (by omega) rfl q1 q_196 q_197 q_198 q_1 ⟨by decide, by decide, by decide +kernel⟩ rfl ⟨rfl, rfl⟩ hR hcs rfl hW hdg) (fun r M' H1 locs1 hr hk B1 => kk r M' hr H1 locs1 hk B1)
def w_X6_records (M : jM) (o : Int) (k : Int → Prop) : Prop := (k (M (o + 1) 1))
set_option maxHeartbeats 4000000 in
set_option maxRecDepth 100000 in
theorem m_X6_records {l : Launch} {G : jG} {M : jM} {o : Int} {k : Int → Prop} (o_M : jOK M) (k_o : jK o = 7) (h : w_X6_records M o k) : Met l yX6_records (wsG yX6_records cX6_records 1 (some .int)) (rmm 0 0) (jPc G M [.ref (jD G o)]) (qI G (fun r M' => M' = M ∧ k r)) 0 0 (gA G) := by
  refine jm_start RX6 rfl (by decide) (Nat.le_of_ble_eq_true rfl) o_M ?_
  intro p e s m args below meth c ls C hr hlocks hl B
  have hl : lv_has ls 1 [(0, .ref (jD G o))] := hl
  unfold w_X6_records at h
  refine lv_aload_n C.1 C.2.1 dX6_records_0 rfl (lv_at hl 0 rfl) ?_
  refine gf_X6_12 C B k_o dX6_records_1 ?_
  refine gf_X6_67 C B (ko_X6_0 k_o) dX6_records_4 ?_
  exact jr_iret C B hr hlocks (o_M (o + 1) 1).1 ⟨rfl, h⟩ dX6_records_7
theorem cl_X6_records {p : Program} {l : Launch} {e : Env} {R : Room} {s : State} {m : MethodId} {args : Array Value} {below : List Frame} {meth : Method} {c : Code} {H : Heap} {locs : List Loc} {cells slots : Nat} {Q : State → Prop} {cc : ByteArray} {nL : Nat} {own : String} {G : jG} {H0 : Heap} {pc idx : Nat} {ls : Array Slot} {rest : List Value} {M : jM} {o : Int} {k : Int → Prop} (C : Cx G p s args m c cc nL own) (hl : ls.size = nL) (B : Hp G M H0 H locs) (q1 : Cond.methodLink own idx yX6_records ∈ tb) (hR : (rmm 0 0).frames + 1 ≤ R.frames ∧ 8 + (1 + 11) + (rmm 0 0).locals ≤ R.locals) (hcs : cells ≤ R.cells ∧ slots ≤ R.slots) (hW : (rest.map fun v => v.category).sum ≤ 8) (k_o : jK o = 7) (h : w_X6_records M o k) (hdg : decode cc pc = .ok (.invokevirtual idx, 3)) (kk : ∀ (r : Int), jR r → ∀ (H1 : Heap) (locs1 : List Loc), k r → Hp G M H0 H1 locs1 → W p l e R s m args below meth c H1 locs1 cells slots Q (F0 m (pc + 3) ls (.int (jI r) :: rest))) : W p l e R s m args below meth c H locs cells slots Q (F0 m pc ls (.ref (jD G o) :: rest)) :=
  jr_callI B (jr_runV (o := o) (As := []) (n := 0) C hl B (m_X6_records B.2.2 k_o h) (jE7 k_o) (by omega) rfl q1 q_260 q_261 q_262 q_1 ⟨by decide, by decide, by decide +kernel⟩ rfl ⟨rfl, rfl⟩ hR hcs rfl hW hdg) (fun r M' H1 locs1 hr hk B1 => by obtain ⟨rfl, hk⟩ := hk; exact kk r hr H1 locs1 hk B1)
def w_X6_recordAt (M : jM) (o : Int) (a1 : Int) (k : Int → Prop) : Prop := (if a1 < 0 then (k (-1000002)) else (if a1 < (M (o + 1) 1) then (jB a1 10 ∧ (k (M (M ((o + 1) + 1) a1) 0))) else (k (-1000007))))
set_option maxHeartbeats 4000000 in
set_option maxRecDepth 100000 in
theorem m_X6_recordAt {l : Launch} {G : jG} {M : jM} {o a1 : Int} {k : Int → Prop} (o_M : jOK M) (k_o : jK o = 7) (r_a1 : jR a1) (h : w_X6_recordAt M o a1 k) : Met l yX6_recordAt (wsG yX6_recordAt cX6_recordAt 2 (some .int)) (rmm 0 0) (jPc G M [.ref (jD G o), .int (jI a1)]) (qI G (fun r M' => M' = M ∧ k r)) 0 0 (gA G) := by
  refine jm_start RX6 rfl (by decide) (Nat.le_of_ble_eq_true rfl) o_M ?_
  intro p e s m args below meth c ls C hr hlocks hl B
  have hl : lv_has ls 2 [(0, .ref (jD G o)), (1, .int (jI a1))] := hl
  unfold w_X6_recordAt at h
  refine lv_iload_n C.1 C.2.1 dX6_recordAt_0 rfl (lv_at hl 1 rfl) ?_
  refine jr_if_ge (tgt := 7) C r_a1 h dX6_recordAt_1 (by decide) (fun hc1 h => ?_) (fun hc1 h => ?_)
  · refine jr_ldc (n := -1000002) C q_237 (by decide) dX6_recordAt_4 ?_
    exact jr_iret C B hr hlocks (jkc rfl) ⟨rfl, h⟩ dX6_recordAt_6
  · refine lv_iload_n C.1 C.2.1 dX6_recordAt_7 rfl (lv_at hl 1 rfl) ?_
    refine lv_aload_n C.1 C.2.1 dX6_recordAt_8 rfl (lv_at hl 0 rfl) ?_
    refine gf_X6_12 C B k_o dX6_recordAt_9 ?_
    refine gf_X6_67 C B (ko_X6_0 k_o) dX6_recordAt_12 ?_
    refine jr_icmp_lt (tgt := 21) C r_a1 (o_M (o + 1) 1).1 h dX6_recordAt_15 (by decide) (fun hc15 h => ?_) (fun hc15 h => ?_)
    · refine lv_aload_n C.1 C.2.1 dX6_recordAt_21 rfl (lv_at hl 0 rfl) ?_
      refine gf_X6_12 C B k_o dX6_recordAt_22 ?_
      refine gf_X6_189 C B (ko_X6_0 k_o) dX6_recordAt_25 ?_
      refine lv_iload_n C.1 C.2.1 dX6_recordAt_28 rfl (lv_at hl 1 rfl) ?_
      obtain ⟨g1, h⟩ := h
      refine jr_rald C B 10 (jk1 (ko_X4_0 (ko_X6_0 k_o)) rfl) (jk2 (ko_X4_0 (ko_X6_0 k_o)) rfl) r_a1 g1 dX6_recordAt_29 (fun kk2 => ?_)
      refine gf_X6_201 C B kk2 dX6_recordAt_30 ?_
      exact jr_iret C B hr hlocks (o_M (M ((o + 1) + 1) a1) 0).1 ⟨rfl, h⟩ dX6_recordAt_33
    · refine jr_ldc (n := -1000007) C q_199 (by decide) dX6_recordAt_18 ?_
      exact jr_iret C B hr hlocks (jkc rfl) ⟨rfl, h⟩ dX6_recordAt_20
theorem cl_X6_recordAt {p : Program} {l : Launch} {e : Env} {R : Room} {s : State} {m : MethodId} {args : Array Value} {below : List Frame} {meth : Method} {c : Code} {H : Heap} {locs : List Loc} {cells slots : Nat} {Q : State → Prop} {cc : ByteArray} {nL : Nat} {own : String} {G : jG} {H0 : Heap} {pc idx : Nat} {ls : Array Slot} {rest : List Value} {M : jM} {o a1 : Int} {k : Int → Prop} (C : Cx G p s args m c cc nL own) (hl : ls.size = nL) (B : Hp G M H0 H locs) (q1 : Cond.methodLink own idx yX6_recordAt ∈ tb) (hR : (rmm 0 0).frames + 1 ≤ R.frames ∧ 8 + (2 + 11) + (rmm 0 0).locals ≤ R.locals) (hcs : cells ≤ R.cells ∧ slots ≤ R.slots) (hW : (rest.map fun v => v.category).sum ≤ 8) (k_o : jK o = 7) (r_a1 : jR a1) (h : w_X6_recordAt M o a1 k) (hdg : decode cc pc = .ok (.invokevirtual idx, 3)) (kk : ∀ (r : Int), jR r → ∀ (H1 : Heap) (locs1 : List Loc), k r → Hp G M H0 H1 locs1 → W p l e R s m args below meth c H1 locs1 cells slots Q (F0 m (pc + 3) ls (.int (jI r) :: rest))) : W p l e R s m args below meth c H locs cells slots Q (F0 m pc ls (.int (jI a1) :: .ref (jD G o) :: rest)) :=
  jr_callI B (jr_runV (o := o) (As := [.int (jI a1)]) (n := 1) C hl B (m_X6_recordAt B.2.2 k_o r_a1 h) (jE7 k_o) (by omega) rfl q1 q_264 q_265 q_266 q_1 ⟨by decide, by decide, by decide +kernel⟩ rfl ⟨rfl, rfl⟩ hR hcs rfl hW hdg) (fun r M' H1 locs1 hr hk B1 => by obtain ⟨rfl, hk⟩ := hk; exact kk r hr H1 locs1 hk B1)
def w_X6_locker (N : Nat) (M : jM) (o : Int) (a1 : Int) (k : Int → Prop) : Prop := (w_X4_find N M (o + 1) a1 (fun x1 => (if x1 < 0 then (k (-1000001)) else (k (M x1 1)))))
set_option maxHeartbeats 4000000 in
set_option maxRecDepth 100000 in
theorem m_X6_locker {l : Launch} {G : jG} {N : Nat} {M : jM} {o a1 : Int} {k : Int → Prop} (o_M : jOK M) (k_o : jK o = 7) (r_a1 : jR a1) (h : w_X6_locker N M o a1 k) : Met l yX6_locker (wsG yX6_locker cX6_locker 3 (some .int)) (rmm 1 22) (jPc G M [.ref (jD G o), .int (jI a1)]) (qI G (fun r M' => M' = M ∧ k r)) 0 0 (gA G) := by
  refine jm_start RX6 rfl (by decide) (Nat.le_of_ble_eq_true rfl) o_M ?_
  intro p e s m args below meth c ls C hr hlocks hl B
  have hl : lv_has ls 3 [(0, .ref (jD G o)), (1, .int (jI a1))] := hl
  unfold w_X6_locker at h
  refine lv_aload_n C.1 C.2.1 dX6_locker_0 rfl (lv_at hl 0 rfl) ?_
  refine gf_X6_12 C B k_o dX6_locker_1 ?_
  refine lv_iload_n C.1 C.2.1 dX6_locker_4 rfl (lv_at hl 1 rfl) ?_
  refine cl_X4_find C hl.1 B q_271 ⟨Nat.le_of_ble_eq_true rfl, Nat.le_of_ble_eq_true rfl⟩ ⟨Nat.zero_le _, Nat.zero_le _⟩ (Nat.le_of_ble_eq_true rfl) (ko_X6_0 k_o) r_a1 h dX6_locker_5 (fun x1 n_x1 _ _ h B => ?_)
  refine jr_astore_nN (lv' := [(2, jN G x1), (0, .ref (jD G o)), (1, .int (jI a1))]) C dX6_locker_8 rfl hl (by decide) rfl (fun ls hl => ?_)
  refine jr_aload_nN C dX6_locker_9 rfl (lv_at hl 0 rfl) ?_
  refine jr_ifnonnull (tgt := 16) C h dX6_locker_10 (by decide) (fun hc10 h => ?_) (fun hc10 h => ?_)
  · refine jr_ldc (n := -1000001) C q_236 (by decide) dX6_locker_13 ?_
    exact jr_iret C B hr hlocks (jkc rfl) ⟨rfl, h⟩ dX6_locker_15
  · have k_x1 : jK x1 = 2 := n_x1.resolve_left hc10
    rw [jN_ref hc10] at hl
    refine lv_aload_n C.1 C.2.1 dX6_locker_16 rfl (lv_at hl 0 rfl) ?_
    refine gf_X6_88 C B k_x1 dX6_locker_17 ?_
    exact jr_iret C B hr hlocks (o_M x1 1).1 ⟨rfl, h⟩ dX6_locker_20
theorem cl_X6_locker {p : Program} {l : Launch} {e : Env} {R : Room} {s : State} {m : MethodId} {args : Array Value} {below : List Frame} {meth : Method} {c : Code} {H : Heap} {locs : List Loc} {cells slots : Nat} {Q : State → Prop} {cc : ByteArray} {nL : Nat} {own : String} {G : jG} {H0 : Heap} {pc idx : Nat} {ls : Array Slot} {rest : List Value} {N : Nat} {M : jM} {o a1 : Int} {k : Int → Prop} (C : Cx G p s args m c cc nL own) (hl : ls.size = nL) (B : Hp G M H0 H locs) (q1 : Cond.methodLink own idx yX6_locker ∈ tb) (hR : (rmm 1 22).frames + 1 ≤ R.frames ∧ 8 + (3 + 11) + (rmm 1 22).locals ≤ R.locals) (hcs : cells ≤ R.cells ∧ slots ≤ R.slots) (hW : (rest.map fun v => v.category).sum ≤ 8) (k_o : jK o = 7) (r_a1 : jR a1) (h : w_X6_locker N M o a1 k) (hdg : decode cc pc = .ok (.invokevirtual idx, 3)) (kk : ∀ (r : Int), jR r → ∀ (H1 : Heap) (locs1 : List Loc), k r → Hp G M H0 H1 locs1 → W p l e R s m args below meth c H1 locs1 cells slots Q (F0 m (pc + 3) ls (.int (jI r) :: rest))) : W p l e R s m args below meth c H locs cells slots Q (F0 m pc ls (.int (jI a1) :: .ref (jD G o) :: rest)) :=
  jr_callI B (jr_runV (o := o) (As := [.int (jI a1)]) (n := 1) C hl B (m_X6_locker B.2.2 k_o r_a1 h) (jE7 k_o) (by omega) rfl q1 q_268 q_269 q_270 q_1 ⟨by decide, by decide, by decide +kernel⟩ rfl ⟨rfl, rfl⟩ hR hcs rfl hW hdg) (fun r M' H1 locs1 hr hk B1 => by obtain ⟨rfl, hk⟩ := hk; exact kk r hr H1 locs1 hk B1)
def w_X6_values (N : Nat) (M : jM) (o : Int) (a1 : Int) (a2 : Int) (k : Int → Prop) : Prop := (w_X4_find N M (o + 1) a1 (fun x1 => (if x1 < 0 then (k (-1000001)) else (w_X6_isBelow a2 4 (fun x2 => (if x2 = 0 then (k (-1000001)) else (w_X1_valueCount M x1 a2 (fun x3 => (k x3)))))))))
set_option maxHeartbeats 4000000 in
set_option maxRecDepth 100000 in
theorem m_X6_values {l : Launch} {G : jG} {N : Nat} {M : jM} {o a1 a2 : Int} {k : Int → Prop} (o_M : jOK M) (k_o : jK o = 7) (r_a1 : jR a1) (r_a2 : jR a2) (h : w_X6_values N M o a1 a2 k) : Met l yX6_values (wsG yX6_values cX6_values 4 (some .int)) (rmm 1 22) (jPc G M [.ref (jD G o), .int (jI a1), .int (jI a2)]) (qI G (fun r M' => M' = M ∧ k r)) 0 0 (gA G) := by
  refine jm_start RX6 rfl (by decide) (Nat.le_of_ble_eq_true rfl) o_M ?_
  intro p e s m args below meth c ls C hr hlocks hl B
  have hl : lv_has ls 4 [(0, .ref (jD G o)), (1, .int (jI a1)), (2, .int (jI a2))] := hl
  unfold w_X6_values at h
  refine lv_aload_n C.1 C.2.1 dX6_values_0 rfl (lv_at hl 0 rfl) ?_
  refine gf_X6_12 C B k_o dX6_values_1 ?_
  refine lv_iload_n C.1 C.2.1 dX6_values_4 rfl (lv_at hl 1 rfl) ?_
  refine cl_X4_find C hl.1 B q_271 ⟨Nat.le_of_ble_eq_true rfl, Nat.le_of_ble_eq_true rfl⟩ ⟨Nat.zero_le _, Nat.zero_le _⟩ (Nat.le_of_ble_eq_true rfl) (ko_X6_0 k_o) r_a1 h dX6_values_5 (fun x1 n_x1 _ _ h B => ?_)
  refine jr_astore_nN (lv' := [(3, jN G x1), (0, .ref (jD G o)), (1, .int (jI a1)), (2, .int (jI a2))]) C dX6_values_8 rfl hl (by decide) rfl (fun ls hl => ?_)
  refine jr_aload_nN C dX6_values_9 rfl (lv_at hl 0 rfl) ?_
  refine jr_ifnull (tgt := 21) C h dX6_values_10 (by decide) (fun hc10 h => ?_) (fun hc10 h => ?_)
  · refine jr_ldc (n := -1000001) C q_236 (by decide) dX6_values_21 ?_
    exact jr_iret C B hr hlocks (jkc rfl) ⟨rfl, h⟩ dX6_values_23
  · have k_x1 : jK x1 = 2 := n_x1.resolve_left hc10
    rw [jN_ref hc10] at hl
    refine lv_iload_n C.1 C.2.1 dX6_values_13 rfl (lv_at hl 3 rfl) ?_
    refine jr_iconst C dX6_values_14 ?_
    refine cl_X6_isBelow C hl.1 B q_233 ⟨Nat.le_of_ble_eq_true rfl, Nat.le_of_ble_eq_true rfl⟩ ⟨Nat.zero_le _, Nat.zero_le _⟩ (Nat.le_of_ble_eq_true rfl) r_a2 (jkc rfl) h dX6_values_15 (fun x2 z_x2 _ _ h B => ?_)
    refine jr_if_ne (tgt := 24) C (zR z_x2) h dX6_values_18 (by decide) (fun hc18 h => ?_) (fun hc18 h => ?_)
    · refine jr_ldc (n := -1000001) C q_236 (by decide) dX6_values_21 ?_
      exact jr_iret C B hr hlocks (jkc rfl) ⟨rfl, h⟩ dX6_values_23
    · refine lv_aload_n C.1 C.2.1 dX6_values_24 rfl (lv_at hl 0 rfl) ?_
      refine lv_iload_n C.1 C.2.1 dX6_values_25 rfl (lv_at hl 3 rfl) ?_
      refine cl_X1_valueCount C hl.1 B q_279 ⟨Nat.le_of_ble_eq_true rfl, Nat.le_of_ble_eq_true rfl⟩ ⟨Nat.zero_le _, Nat.zero_le _⟩ (Nat.le_of_ble_eq_true rfl) k_x1 r_a2 h dX6_values_26 (fun x3 r_x3 _ _ h B => ?_)
      exact jr_iret C B hr hlocks r_x3 ⟨rfl, h⟩ dX6_values_29
theorem cl_X6_values {p : Program} {l : Launch} {e : Env} {R : Room} {s : State} {m : MethodId} {args : Array Value} {below : List Frame} {meth : Method} {c : Code} {H : Heap} {locs : List Loc} {cells slots : Nat} {Q : State → Prop} {cc : ByteArray} {nL : Nat} {own : String} {G : jG} {H0 : Heap} {pc idx : Nat} {ls : Array Slot} {rest : List Value} {N : Nat} {M : jM} {o a1 a2 : Int} {k : Int → Prop} (C : Cx G p s args m c cc nL own) (hl : ls.size = nL) (B : Hp G M H0 H locs) (q1 : Cond.methodLink own idx yX6_values ∈ tb) (hR : (rmm 1 22).frames + 1 ≤ R.frames ∧ 8 + (4 + 11) + (rmm 1 22).locals ≤ R.locals) (hcs : cells ≤ R.cells ∧ slots ≤ R.slots) (hW : (rest.map fun v => v.category).sum ≤ 8) (k_o : jK o = 7) (r_a1 : jR a1) (r_a2 : jR a2) (h : w_X6_values N M o a1 a2 k) (hdg : decode cc pc = .ok (.invokevirtual idx, 3)) (kk : ∀ (r : Int), jR r → ∀ (H1 : Heap) (locs1 : List Loc), k r → Hp G M H0 H1 locs1 → W p l e R s m args below meth c H1 locs1 cells slots Q (F0 m (pc + 3) ls (.int (jI r) :: rest))) : W p l e R s m args below meth c H locs cells slots Q (F0 m pc ls (.int (jI a2) :: .int (jI a1) :: .ref (jD G o) :: rest)) :=
  jr_callI B (jr_runV (o := o) (As := [.int (jI a1), .int (jI a2)]) (n := 2) C hl B (m_X6_values B.2.2 k_o r_a1 r_a2 h) (jE7 k_o) (by omega) rfl q1 q_276 q_277 q_278 q_1 ⟨by decide, by decide, by decide +kernel⟩ rfl ⟨rfl, rfl⟩ hR hcs rfl hW hdg) (fun r M' H1 locs1 hr hk B1 => by obtain ⟨rfl, hk⟩ := hk; exact kk r hr H1 locs1 hk B1)
def w_X6_subvalues (N : Nat) (M : jM) (o : Int) (a1 : Int) (a2 : Int) (a3 : Int) (k : Int → Prop) : Prop := (w_X4_find N M (o + 1) a1 (fun x1 => (if x1 < 0 then (k (-1000001)) else (w_X1_hasValue M x1 a2 a3 (fun x2 => (if x2 = 0 then (k (-1000001)) else (w_X1_subCount M x1 a2 a3 (fun x3 => (k x3)))))))))
set_option maxHeartbeats 4000000 in
set_option maxRecDepth 100000 in
theorem m_X6_subvalues {l : Launch} {G : jG} {N : Nat} {M : jM} {o a1 a2 a3 : Int} {k : Int → Prop} (o_M : jOK M) (k_o : jK o = 7) (r_a1 : jR a1) (r_a2 : jR a2) (r_a3 : jR a3) (h : w_X6_subvalues N M o a1 a2 a3 k) : Met l yX6_subvalues (wsG yX6_subvalues cX6_subvalues 5 (some .int)) (rmm 2 43) (jPc G M [.ref (jD G o), .int (jI a1), .int (jI a2), .int (jI a3)]) (qI G (fun r M' => M' = M ∧ k r)) 0 0 (gA G) := by
  refine jm_start RX6 rfl (by decide) (Nat.le_of_ble_eq_true rfl) o_M ?_
  intro p e s m args below meth c ls C hr hlocks hl B
  have hl : lv_has ls 5 [(0, .ref (jD G o)), (1, .int (jI a1)), (2, .int (jI a2)), (3, .int (jI a3))] := hl
  unfold w_X6_subvalues at h
  refine lv_aload_n C.1 C.2.1 dX6_subvalues_0 rfl (lv_at hl 0 rfl) ?_
  refine gf_X6_12 C B k_o dX6_subvalues_1 ?_
  refine lv_iload_n C.1 C.2.1 dX6_subvalues_4 rfl (lv_at hl 1 rfl) ?_
  refine cl_X4_find C hl.1 B q_271 ⟨Nat.le_of_ble_eq_true rfl, Nat.le_of_ble_eq_true rfl⟩ ⟨Nat.zero_le _, Nat.zero_le _⟩ (Nat.le_of_ble_eq_true rfl) (ko_X6_0 k_o) r_a1 h dX6_subvalues_5 (fun x1 n_x1 _ _ h B => ?_)
  refine jr_astoreN (lv' := [(4, jN G x1), (0, .ref (jD G o)), (1, .int (jI a1)), (2, .int (jI a2)), (3, .int (jI a3))]) C dX6_subvalues_8 hl (by decide) rfl (fun ls hl => ?_)
  refine jr_aloadN C dX6_subvalues_10 (lv_at hl 0 rfl) ?_
  refine jr_ifnull (tgt := 25) C h dX6_subvalues_12 (by decide) (fun hc12 h => ?_) (fun hc12 h => ?_)
  · refine jr_ldc (n := -1000001) C q_236 (by decide) dX6_subvalues_25 ?_
    exact jr_iret C B hr hlocks (jkc rfl) ⟨rfl, h⟩ dX6_subvalues_27
  · have k_x1 : jK x1 = 2 := n_x1.resolve_left hc12
    rw [jN_ref hc12] at hl
    refine lv_aload C.1 C.2.1 dX6_subvalues_15 (lv_at hl 0 rfl) ?_
    refine lv_iload_n C.1 C.2.1 dX6_subvalues_17 rfl (lv_at hl 3 rfl) ?_
    refine lv_iload_n C.1 C.2.1 dX6_subvalues_18 rfl (lv_at hl 4 rfl) ?_
    refine cl_X1_hasValue C hl.1 B q_287 ⟨Nat.le_of_ble_eq_true rfl, Nat.le_of_ble_eq_true rfl⟩ ⟨Nat.zero_le _, Nat.zero_le _⟩ (Nat.le_of_ble_eq_true rfl) k_x1 r_a2 r_a3 h dX6_subvalues_19 (fun x2 z_x2 _ _ h B => ?_)
    refine jr_if_ne (tgt := 28) C (zR z_x2) h dX6_subvalues_22 (by decide) (fun hc22 h => ?_) (fun hc22 h => ?_)
    · refine jr_ldc (n := -1000001) C q_236 (by decide) dX6_subvalues_25 ?_
      exact jr_iret C B hr hlocks (jkc rfl) ⟨rfl, h⟩ dX6_subvalues_27
    · refine lv_aload C.1 C.2.1 dX6_subvalues_28 (lv_at hl 0 rfl) ?_
      refine lv_iload_n C.1 C.2.1 dX6_subvalues_30 rfl (lv_at hl 3 rfl) ?_
      refine lv_iload_n C.1 C.2.1 dX6_subvalues_31 rfl (lv_at hl 4 rfl) ?_
      refine cl_X1_subCount C hl.1 B q_292 ⟨Nat.le_of_ble_eq_true rfl, Nat.le_of_ble_eq_true rfl⟩ ⟨Nat.zero_le _, Nat.zero_le _⟩ (Nat.le_of_ble_eq_true rfl) k_x1 r_a2 r_a3 h dX6_subvalues_32 (fun x3 r_x3 _ _ h B => ?_)
      exact jr_iret C B hr hlocks r_x3 ⟨rfl, h⟩ dX6_subvalues_35
theorem cl_X6_subvalues {p : Program} {l : Launch} {e : Env} {R : Room} {s : State} {m : MethodId} {args : Array Value} {below : List Frame} {meth : Method} {c : Code} {H : Heap} {locs : List Loc} {cells slots : Nat} {Q : State → Prop} {cc : ByteArray} {nL : Nat} {own : String} {G : jG} {H0 : Heap} {pc idx : Nat} {ls : Array Slot} {rest : List Value} {N : Nat} {M : jM} {o a1 a2 a3 : Int} {k : Int → Prop} (C : Cx G p s args m c cc nL own) (hl : ls.size = nL) (B : Hp G M H0 H locs) (q1 : Cond.methodLink own idx yX6_subvalues ∈ tb) (hR : (rmm 2 43).frames + 1 ≤ R.frames ∧ 8 + (5 + 11) + (rmm 2 43).locals ≤ R.locals) (hcs : cells ≤ R.cells ∧ slots ≤ R.slots) (hW : (rest.map fun v => v.category).sum ≤ 8) (k_o : jK o = 7) (r_a1 : jR a1) (r_a2 : jR a2) (r_a3 : jR a3) (h : w_X6_subvalues N M o a1 a2 a3 k) (hdg : decode cc pc = .ok (.invokevirtual idx, 3)) (kk : ∀ (r : Int), jR r → ∀ (H1 : Heap) (locs1 : List Loc), k r → Hp G M H0 H1 locs1 → W p l e R s m args below meth c H1 locs1 cells slots Q (F0 m (pc + 3) ls (.int (jI r) :: rest))) : W p l e R s m args below meth c H locs cells slots Q (F0 m pc ls (.int (jI a3) :: .int (jI a2) :: .int (jI a1) :: .ref (jD G o) :: rest)) :=
  jr_callI B (jr_runV (o := o) (As := [.int (jI a1), .int (jI a2), .int (jI a3)]) (n := 3) C hl B (m_X6_subvalues B.2.2 k_o r_a1 r_a2 r_a3 h) (jE7 k_o) (by omega) rfl q1 q_284 q_285 q_286 q_1 ⟨by decide, by decide, by decide +kernel⟩ rfl ⟨rfl, rfl⟩ hR hcs rfl hW hdg) (fun r M' H1 locs1 hr hk B1 => by obtain ⟨rfl, hk⟩ := hk; exact kk r hr H1 locs1 hk B1)
def w_X6_get (N : Nat) (M : jM) (o : Int) (a1 : Int) (a2 : Int) (a3 : Int) (a4 : Int) (k : Int → Prop) : Prop := (w_X4_find N M (o + 1) a1 (fun x1 => (if x1 < 0 then (k (-1000001)) else (w_X1_hasSub M x1 a2 a3 a4 (fun x2 => (if x2 = 0 then (k (-1000001)) else (w_X1_numberOf M x1 a2 a3 a4 (fun x3 => (k x3)))))))))
set_option maxHeartbeats 4000000 in
set_option maxRecDepth 100000 in
theorem m_X6_get {l : Launch} {G : jG} {N : Nat} {M : jM} {o a1 a2 a3 a4 : Int} {k : Int → Prop} (o_M : jOK M) (k_o : jK o = 7) (r_a1 : jR a1) (r_a2 : jR a2) (r_a3 : jR a3) (r_a4 : jR a4) (h : w_X6_get N M o a1 a2 a3 a4 k) : Met l yX6_get (wsG yX6_get cX6_get 6 (some .int)) (rmm 3 66) (jPc G M [.ref (jD G o), .int (jI a1), .int (jI a2), .int (jI a3), .int (jI a4)]) (qI G (fun r M' => M' = M ∧ k r)) 0 0 (gA G) := by
  refine jm_start RX6 rfl (by decide) (Nat.le_of_ble_eq_true rfl) o_M ?_
  intro p e s m args below meth c ls C hr hlocks hl B
  have hl : lv_has ls 6 [(0, .ref (jD G o)), (1, .int (jI a1)), (2, .int (jI a2)), (3, .int (jI a3)), (4, .int (jI a4))] := hl
  unfold w_X6_get at h
  refine lv_aload_n C.1 C.2.1 dX6_get_0 rfl (lv_at hl 0 rfl) ?_
  refine gf_X6_12 C B k_o dX6_get_1 ?_
  refine lv_iload_n C.1 C.2.1 dX6_get_4 rfl (lv_at hl 1 rfl) ?_
  refine cl_X4_find C hl.1 B q_271 ⟨Nat.le_of_ble_eq_true rfl, Nat.le_of_ble_eq_true rfl⟩ ⟨Nat.zero_le _, Nat.zero_le _⟩ (Nat.le_of_ble_eq_true rfl) (ko_X6_0 k_o) r_a1 h dX6_get_5 (fun x1 n_x1 _ _ h B => ?_)
  refine jr_astoreN (lv' := [(5, jN G x1), (0, .ref (jD G o)), (1, .int (jI a1)), (2, .int (jI a2)), (3, .int (jI a3)), (4, .int (jI a4))]) C dX6_get_8 hl (by decide) rfl (fun ls hl => ?_)
  refine jr_aloadN C dX6_get_10 (lv_at hl 0 rfl) ?_
  refine jr_ifnull (tgt := 27) C h dX6_get_12 (by decide) (fun hc12 h => ?_) (fun hc12 h => ?_)
  · refine jr_ldc (n := -1000001) C q_236 (by decide) dX6_get_27 ?_
    exact jr_iret C B hr hlocks (jkc rfl) ⟨rfl, h⟩ dX6_get_29
  · have k_x1 : jK x1 = 2 := n_x1.resolve_left hc12
    rw [jN_ref hc12] at hl
    refine lv_aload C.1 C.2.1 dX6_get_15 (lv_at hl 0 rfl) ?_
    refine lv_iload_n C.1 C.2.1 dX6_get_17 rfl (lv_at hl 3 rfl) ?_
    refine lv_iload_n C.1 C.2.1 dX6_get_18 rfl (lv_at hl 4 rfl) ?_
    refine lv_iload C.1 C.2.1 dX6_get_19 (lv_at hl 5 rfl) ?_
    refine cl_X1_hasSub C hl.1 B q_300 ⟨Nat.le_of_ble_eq_true rfl, Nat.le_of_ble_eq_true rfl⟩ ⟨Nat.zero_le _, Nat.zero_le _⟩ (Nat.le_of_ble_eq_true rfl) k_x1 r_a2 r_a3 r_a4 h dX6_get_21 (fun x2 z_x2 _ _ h B => ?_)
    refine jr_if_ne (tgt := 30) C (zR z_x2) h dX6_get_24 (by decide) (fun hc24 h => ?_) (fun hc24 h => ?_)
    · refine jr_ldc (n := -1000001) C q_236 (by decide) dX6_get_27 ?_
      exact jr_iret C B hr hlocks (jkc rfl) ⟨rfl, h⟩ dX6_get_29
    · refine lv_aload C.1 C.2.1 dX6_get_30 (lv_at hl 0 rfl) ?_
      refine lv_iload_n C.1 C.2.1 dX6_get_32 rfl (lv_at hl 3 rfl) ?_
      refine lv_iload_n C.1 C.2.1 dX6_get_33 rfl (lv_at hl 4 rfl) ?_
      refine lv_iload C.1 C.2.1 dX6_get_34 (lv_at hl 5 rfl) ?_
      refine cl_X1_numberOf C hl.1 B q_306 ⟨Nat.le_of_ble_eq_true rfl, Nat.le_of_ble_eq_true rfl⟩ ⟨Nat.zero_le _, Nat.zero_le _⟩ (Nat.le_of_ble_eq_true rfl) k_x1 r_a2 r_a3 r_a4 h dX6_get_36 (fun x3 r_x3 _ _ h B => ?_)
      exact jr_iret C B hr hlocks r_x3 ⟨rfl, h⟩ dX6_get_39
theorem cl_X6_get {p : Program} {l : Launch} {e : Env} {R : Room} {s : State} {m : MethodId} {args : Array Value} {below : List Frame} {meth : Method} {c : Code} {H : Heap} {locs : List Loc} {cells slots : Nat} {Q : State → Prop} {cc : ByteArray} {nL : Nat} {own : String} {G : jG} {H0 : Heap} {pc idx : Nat} {ls : Array Slot} {rest : List Value} {N : Nat} {M : jM} {o a1 a2 a3 a4 : Int} {k : Int → Prop} (C : Cx G p s args m c cc nL own) (hl : ls.size = nL) (B : Hp G M H0 H locs) (q1 : Cond.methodLink own idx yX6_get ∈ tb) (hR : (rmm 3 66).frames + 1 ≤ R.frames ∧ 8 + (6 + 11) + (rmm 3 66).locals ≤ R.locals) (hcs : cells ≤ R.cells ∧ slots ≤ R.slots) (hW : (rest.map fun v => v.category).sum ≤ 8) (k_o : jK o = 7) (r_a1 : jR a1) (r_a2 : jR a2) (r_a3 : jR a3) (r_a4 : jR a4) (h : w_X6_get N M o a1 a2 a3 a4 k) (hdg : decode cc pc = .ok (.invokevirtual idx, 3)) (kk : ∀ (r : Int), jR r → ∀ (H1 : Heap) (locs1 : List Loc), k r → Hp G M H0 H1 locs1 → W p l e R s m args below meth c H1 locs1 cells slots Q (F0 m (pc + 3) ls (.int (jI r) :: rest))) : W p l e R s m args below meth c H locs cells slots Q (F0 m pc ls (.int (jI a4) :: .int (jI a3) :: .int (jI a2) :: .int (jI a1) :: .ref (jD G o) :: rest)) :=
  jr_callI B (jr_runV (o := o) (As := [.int (jI a1), .int (jI a2), .int (jI a3), .int (jI a4)]) (n := 4) C hl B (m_X6_get B.2.2 k_o r_a1 r_a2 r_a3 r_a4 h) (jE7 k_o) (by omega) rfl q1 q_297 q_298 q_299 q_1 ⟨by decide, by decide, by decide +kernel⟩ rfl ⟨rfl, rfl⟩ hR hcs rfl hW hdg) (fun r M' H1 locs1 hr hk B1 => by obtain ⟨rfl, hk⟩ := hk; exact kk r hr H1 locs1 hk B1)
def w_X6_lines (N : Nat) (M : jM) (o : Int) (a1 : Int) (k : Int → Prop) : Prop := (w_X4_find N M (o + 1) a1 (fun x1 => (if x1 < 0 then (k (-1000001)) else (w_X4_lineCount N M (o + 1) x1 (fun x2 => (k x2))))))
set_option maxHeartbeats 4000000 in
set_option maxRecDepth 100000 in
theorem m_X6_lines {l : Launch} {G : jG} {N : Nat} {M : jM} {o a1 : Int} {k : Int → Prop} (o_M : jOK M) (k_o : jK o = 7) (r_a1 : jR a1) (h : w_X6_lines N M o a1 k) : Met l yX6_lines (wsG yX6_lines cX6_lines 3 (some .int)) (rmm 2 63) (jPc G M [.ref (jD G o), .int (jI a1)]) (qI G (fun r M' => M' = M ∧ k r)) 0 0 (gA G) := by
  refine jm_start RX6 rfl (by decide) (Nat.le_of_ble_eq_true rfl) o_M ?_
  intro p e s m args below meth c ls C hr hlocks hl B
  have hl : lv_has ls 3 [(0, .ref (jD G o)), (1, .int (jI a1))] := hl
  unfold w_X6_lines at h
  refine lv_aload_n C.1 C.2.1 dX6_lines_0 rfl (lv_at hl 0 rfl) ?_
  refine gf_X6_12 C B k_o dX6_lines_1 ?_
  refine lv_iload_n C.1 C.2.1 dX6_lines_4 rfl (lv_at hl 1 rfl) ?_
  refine cl_X4_find C hl.1 B q_271 ⟨Nat.le_of_ble_eq_true rfl, Nat.le_of_ble_eq_true rfl⟩ ⟨Nat.zero_le _, Nat.zero_le _⟩ (Nat.le_of_ble_eq_true rfl) (ko_X6_0 k_o) r_a1 h dX6_lines_5 (fun x1 n_x1 _ _ h B => ?_)
  refine jr_astore_nN (lv' := [(2, jN G x1), (0, .ref (jD G o)), (1, .int (jI a1))]) C dX6_lines_8 rfl hl (by decide) rfl (fun ls hl => ?_)
  refine jr_aload_nN C dX6_lines_9 rfl (lv_at hl 0 rfl) ?_
  refine jr_ifnonnull (tgt := 16) C h dX6_lines_10 (by decide) (fun hc10 h => ?_) (fun hc10 h => ?_)
  · refine jr_ldc (n := -1000001) C q_236 (by decide) dX6_lines_13 ?_
    exact jr_iret C B hr hlocks (jkc rfl) ⟨rfl, h⟩ dX6_lines_15
  · have k_x1 : jK x1 = 2 := n_x1.resolve_left hc10
    rw [jN_ref hc10] at hl
    refine lv_aload_n C.1 C.2.1 dX6_lines_16 rfl (lv_at hl 1 rfl) ?_
    refine gf_X6_12 C B k_o dX6_lines_17 ?_
    refine lv_aload_n C.1 C.2.1 dX6_lines_20 rfl (lv_at hl 0 rfl) ?_
    refine cl_X4_lineCount C hl.1 B q_327 ⟨Nat.le_of_ble_eq_true rfl, Nat.le_of_ble_eq_true rfl⟩ ⟨Nat.zero_le _, Nat.zero_le _⟩ (Nat.le_of_ble_eq_true rfl) (ko_X6_0 k_o) k_x1 h dX6_lines_21 (fun x2 r_x2 _ _ h B => ?_)
    exact jr_iret C B hr hlocks r_x2 ⟨rfl, h⟩ dX6_lines_24
theorem cl_X6_lines {p : Program} {l : Launch} {e : Env} {R : Room} {s : State} {m : MethodId} {args : Array Value} {below : List Frame} {meth : Method} {c : Code} {H : Heap} {locs : List Loc} {cells slots : Nat} {Q : State → Prop} {cc : ByteArray} {nL : Nat} {own : String} {G : jG} {H0 : Heap} {pc idx : Nat} {ls : Array Slot} {rest : List Value} {N : Nat} {M : jM} {o a1 : Int} {k : Int → Prop} (C : Cx G p s args m c cc nL own) (hl : ls.size = nL) (B : Hp G M H0 H locs) (q1 : Cond.methodLink own idx yX6_lines ∈ tb) (hR : (rmm 2 63).frames + 1 ≤ R.frames ∧ 8 + (3 + 11) + (rmm 2 63).locals ≤ R.locals) (hcs : cells ≤ R.cells ∧ slots ≤ R.slots) (hW : (rest.map fun v => v.category).sum ≤ 8) (k_o : jK o = 7) (r_a1 : jR a1) (h : w_X6_lines N M o a1 k) (hdg : decode cc pc = .ok (.invokevirtual idx, 3)) (kk : ∀ (r : Int), jR r → ∀ (H1 : Heap) (locs1 : List Loc), k r → Hp G M H0 H1 locs1 → W p l e R s m args below meth c H1 locs1 cells slots Q (F0 m (pc + 3) ls (.int (jI r) :: rest))) : W p l e R s m args below meth c H locs cells slots Q (F0 m pc ls (.int (jI a1) :: .ref (jD G o) :: rest)) :=
  jr_callI B (jr_runV (o := o) (As := [.int (jI a1)]) (n := 1) C hl B (m_X6_lines B.2.2 k_o r_a1 h) (jE7 k_o) (by omega) rfl q1 q_324 q_325 q_326 q_1 ⟨by decide, by decide, by decide +kernel⟩ rfl ⟨rfl, rfl⟩ hR hcs rfl hW hdg) (fun r M' H1 locs1 hr hk B1 => by obtain ⟨rfl, hk⟩ := hk; exact kk r hr H1 locs1 hk B1)
