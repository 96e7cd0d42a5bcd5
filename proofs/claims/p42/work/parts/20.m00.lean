def w_X0_begin (M : jM) (o : Int) (a1 : Int) (k : jM → Prop) : Prop := (jL (jU M o 3 0) (fun M1 => (jL (jU M1 o 4 a1) (fun M2 => (k M2)))))
set_option maxHeartbeats 4000000 in
set_option maxRecDepth 100000 in
theorem m_X0_begin {l : Launch} {G : jG} {M : jM} {o a1 : Int} {k : jM → Prop} (o_M : jOK M) (k_o : jK o = 1) (z_a1 : a1 = 0 ∨ a1 = 1) (h : w_X0_begin M o a1 k) : Met l yX0_begin (wsG yX0_begin cX0_begin 2 none) (rmm 0 0) (jPc G M [.ref (jD G o), .int (jI a1)]) (qV G k) 0 0 (gA G) := by
  refine jm_start RX0 rfl (by decide) (Nat.le_of_ble_eq_true rfl) o_M ?_
  intro p e s m args below meth c ls C hr hlocks hl B
  have hl : lv_has ls 2 [(0, .ref (jD G o)), (1, .int (jI a1))] := hl
  unfold w_X0_begin at h
  refine lv_aload_n C.1 C.2.1 dX0_begin_0 rfl (lv_at hl 0 rfl) ?_
  refine jr_iconst C dX0_begin_1 ?_
  refine pf_X0_21 C B k_o (jkc rfl) h dX0_begin_2 (fun M1 _ _ h B => ?_)
  have o_M1 := B.2.2
  refine lv_aload_n C.1 C.2.1 dX0_begin_5 rfl (lv_at hl 0 rfl) ?_
  refine lv_iload_n C.1 C.2.1 dX0_begin_6 rfl (lv_at hl 1 rfl) ?_
  refine pf_X0_25 C B k_o z_a1 h dX0_begin_7 (fun M2 _ _ h B => ?_)
  have o_M2 := B.2.2
  exact jr_vret C B hr hlocks h dX0_begin_10
theorem cl_X0_begin {p : Program} {l : Launch} {e : Env} {R : Room} {s : State} {m : MethodId} {args : Array Value} {below : List Frame} {meth : Method} {c : Code} {H : Heap} {locs : List Loc} {cells slots : Nat} {Q : State → Prop} {cc : ByteArray} {nL : Nat} {own : String} {G : jG} {H0 : Heap} {pc idx : Nat} {ls : Array Slot} {rest : List Value} {M : jM} {o a1 : Int} {k : jM → Prop} (C : Cx G p s args m c cc nL own) (hl : ls.size = nL) (B : Hp G M H0 H locs) (q1 : Cond.methodLink own idx yX0_begin ∈ tb) (hR : (rmm 0 0).frames + 1 ≤ R.frames ∧ 8 + (2 + 11) + (rmm 0 0).locals ≤ R.locals) (hcs : cells ≤ R.cells ∧ slots ≤ R.slots) (hW : (rest.map fun v => v.category).sum ≤ 8) (k_o : jK o = 1) (z_a1 : a1 = 0 ∨ a1 = 1) (h : w_X0_begin M o a1 k) (hdg : decode cc pc = .ok (.invokevirtual idx, 3)) (kk : ∀ (M' : jM) (H1 : Heap) (locs1 : List Loc), k M' → Hp G M' H0 H1 locs1 → W p l e R s m args below meth c H1 locs1 cells slots Q (F0 m (pc + 3) ls rest)) : W p l e R s m args below meth c H locs cells slots Q (F0 m pc ls (.int (jI a1) :: .ref (jD G o) :: rest)) :=
  jr_callV B (jr_runV (o := o) (As := [.int (jI a1)]) (n := 1) C hl B (m_X0_begin B.2.2 k_o z_a1 h) (jE1 k_o) (by omega) rfl q1 q_415 q_416 q_417 q_7 ⟨by decide, by decide, by decide +kernel⟩ rfl ⟨rfl, rfl⟩ hR hcs rfl hW hdg) (fun M' H1 locs1 hk B1 => kk M' H1 locs1 hk B1)
def w_X0_isBehind (M : jM) (o : Int) (a1 : Int) (a2 : Int) (k : Int → Prop) : Prop := (if (M o 4) = 0 then (if a1 ≤ a2 then (k 0) else (k 1)) else (if a1 < a2 then (k 1) else (k 0)))
set_option maxHeartbeats 4000000 in
set_option maxRecDepth 100000 in
theorem m_X0_isBehind {l : Launch} {G : jG} {M : jM} {o a1 a2 : Int} {k : Int → Prop} (o_M : jOK M) (k_o : jK o = 1) (r_a1 : jR a1) (r_a2 : jR a2) (h : w_X0_isBehind M o a1 a2 k) : Met l yX0_isBehind (wsG yX0_isBehind cX0_isBehind 3 (some .boolean)) (rmm 0 0) (jPc G M [.ref (jD G o), .int (jI a1), .int (jI a2)]) (qZ G (fun r M' => M' = M ∧ k r)) 0 0 (gA G) := by
  refine jm_start RX0 rfl (by decide) (Nat.le_of_ble_eq_true rfl) o_M ?_
  intro p e s m args below meth c ls C hr hlocks hl B
  have hl : lv_has ls 3 [(0, .ref (jD G o)), (1, .int (jI a1)), (2, .int (jI a2))] := hl
  unfold w_X0_isBehind at h
  refine lv_aload_n C.1 C.2.1 dX0_isBehind_0 rfl (lv_at hl 0 rfl) ?_
  refine gf_X0_25 C B k_o dX0_isBehind_1 ?_
  refine jr_if_eq (tgt := 20) C (zR (jz_X0_4 o_M k_o)) h dX0_isBehind_4 (by decide) (fun hc4 h => ?_) (fun hc4 h => ?_)
  · refine lv_iload_n C.1 C.2.1 dX0_isBehind_20 rfl (lv_at hl 1 rfl) ?_
    refine lv_iload_n C.1 C.2.1 dX0_isBehind_21 rfl (lv_at hl 2 rfl) ?_
    refine jr_icmp_le (tgt := 29) C r_a1 r_a2 h dX0_isBehind_22 (by decide) (fun hc22 h => ?_) (fun hc22 h => ?_)
    · refine jr_iconst C dX0_isBehind_29 ?_
      exact jr_zret C B hr hlocks (Or.inl rfl) ⟨rfl, h⟩ dX0_isBehind_30
    · refine jr_iconst C dX0_isBehind_25 ?_
      refine lv_goto (tgt := 30) C.1 C.2.1 dX0_isBehind_26 (by decide) ?_
      exact jr_zret C B hr hlocks (Or.inr rfl) ⟨rfl, h⟩ dX0_isBehind_30
  · refine lv_iload_n C.1 C.2.1 dX0_isBehind_7 rfl (lv_at hl 1 rfl) ?_
    refine lv_iload_n C.1 C.2.1 dX0_isBehind_8 rfl (lv_at hl 2 rfl) ?_
    refine jr_icmp_ge (tgt := 16) C r_a1 r_a2 h dX0_isBehind_9 (by decide) (fun hc9 h => ?_) (fun hc9 h => ?_)
    · refine jr_iconst C dX0_isBehind_12 ?_
      refine lv_goto (tgt := 30) C.1 C.2.1 dX0_isBehind_13 (by decide) ?_
      exact jr_zret C B hr hlocks (Or.inr rfl) ⟨rfl, h⟩ dX0_isBehind_30
    · refine jr_iconst C dX0_isBehind_16 ?_
      refine lv_goto (tgt := 30) C.1 C.2.1 dX0_isBehind_17 (by decide) ?_
      exact jr_zret C B hr hlocks (Or.inl rfl) ⟨rfl, h⟩ dX0_isBehind_30
theorem cl_X0_isBehind {p : Program} {l : Launch} {e : Env} {R : Room} {s : State} {m : MethodId} {args : Array Value} {below : List Frame} {meth : Method} {c : Code} {H : Heap} {locs : List Loc} {cells slots : Nat} {Q : State → Prop} {cc : ByteArray} {nL : Nat} {own : String} {G : jG} {H0 : Heap} {pc idx : Nat} {ls : Array Slot} {rest : List Value} {M : jM} {o a1 a2 : Int} {k : Int → Prop} (C : Cx G p s args m c cc nL own) (hl : ls.size = nL) (B : Hp G M H0 H locs) (q1 : Cond.methodLink own idx yX0_isBehind ∈ tb) (hR : (rmm 0 0).frames + 1 ≤ R.frames ∧ 8 + (3 + 11) + (rmm 0 0).locals ≤ R.locals) (hcs : cells ≤ R.cells ∧ slots ≤ R.slots) (hW : (rest.map fun v => v.category).sum ≤ 8) (k_o : jK o = 1) (r_a1 : jR a1) (r_a2 : jR a2) (h : w_X0_isBehind M o a1 a2 k) (hdg : decode cc pc = .ok (.invokevirtual idx, 3)) (kk : ∀ (r : Int), (r = 0 ∨ r = 1) → ∀ (H1 : Heap) (locs1 : List Loc), k r → Hp G M H0 H1 locs1 → W p l e R s m args below meth c H1 locs1 cells slots Q (F0 m (pc + 3) ls (.int (jI r) :: rest))) : W p l e R s m args below meth c H locs cells slots Q (F0 m pc ls (.int (jI a2) :: .int (jI a1) :: .ref (jD G o) :: rest)) :=
  jr_callZ B (jr_runV (o := o) (As := [.int (jI a1), .int (jI a2)]) (n := 2) C hl B (m_X0_isBehind B.2.2 k_o r_a1 r_a2 h) (jE1 k_o) (by omega) rfl q1 q_424 qs_3 q_425 q_7 ⟨by decide, by decide, by decide +kernel⟩ rfl ⟨rfl, rfl⟩ hR hcs rfl hW hdg) (fun r M' H1 locs1 hr hk B1 => by obtain ⟨rfl, hk⟩ := hk; exact kk r hr H1 locs1 hk B1)
def w_X0_put (M : jM) (o : Int) (a1 : Int) (a2 : Int) (a3 : Int) (a4 : Int) (k : jM → Prop) : Prop := (jB a1 200 ∧ jL (jU M (o + 1) a1 a2) (fun M1 => (jB a1 200 ∧ jL (jU M1 (o + 2) a1 a3) (fun M2 => (jB a1 200 ∧ jL (jU M2 (o + 3) a1 a4) (fun M3 => (k M3)))))))
set_option maxHeartbeats 4000000 in
set_option maxRecDepth 100000 in
theorem m_X0_put {l : Launch} {G : jG} {M : jM} {o a1 a2 a3 a4 : Int} {k : jM → Prop} (o_M : jOK M) (k_o : jK o = 1) (r_a1 : jR a1) (r_a2 : jR a2) (r_a3 : jR a3) (r_a4 : jR a4) (h : w_X0_put M o a1 a2 a3 a4 k) : Met l yX0_put (wsG yX0_put cX0_put 5 none) (rmm 0 0) (jPc G M [.ref (jD G o), .int (jI a1), .int (jI a2), .int (jI a3), .int (jI a4)]) (qV G k) 0 0 (gA G) := by
  refine jm_start RX0 rfl (by decide) (Nat.le_of_ble_eq_true rfl) o_M ?_
  intro p e s m args below meth c ls C hr hlocks hl B
  have hl : lv_has ls 5 [(0, .ref (jD G o)), (1, .int (jI a1)), (2, .int (jI a2)), (3, .int (jI a3)), (4, .int (jI a4))] := hl
  unfold w_X0_put at h
  refine lv_aload_n C.1 C.2.1 dX0_put_0 rfl (lv_at hl 0 rfl) ?_
  refine gf_X0_9 C B k_o dX0_put_1 ?_
  refine lv_iload_n C.1 C.2.1 dX0_put_4 rfl (lv_at hl 1 rfl) ?_
  refine lv_iload_n C.1 C.2.1 dX0_put_5 rfl (lv_at hl 2 rfl) ?_
  refine jr_iast C B 200 (jk1 (ko_X0_0 k_o) rfl) (jk2 (ko_X0_0 k_o) rfl) r_a1 r_a2 h dX0_put_6 (fun M1 _ _ h B => ?_)
  have o_M1 := B.2.2
  refine lv_aload_n C.1 C.2.1 dX0_put_7 rfl (lv_at hl 0 rfl) ?_
  refine gf_X0_15 C B k_o dX0_put_8 ?_
  refine lv_iload_n C.1 C.2.1 dX0_put_11 rfl (lv_at hl 1 rfl) ?_
  refine lv_iload_n C.1 C.2.1 dX0_put_12 rfl (lv_at hl 3 rfl) ?_
  refine jr_iast C B 200 (jk1 (ko_X0_1 k_o) rfl) (jk2 (ko_X0_1 k_o) rfl) r_a1 r_a3 h dX0_put_13 (fun M2 _ _ h B => ?_)
  have o_M2 := B.2.2
  refine lv_aload_n C.1 C.2.1 dX0_put_14 rfl (lv_at hl 0 rfl) ?_
  refine gf_X0_18 C B k_o dX0_put_15 ?_
  refine lv_iload_n C.1 C.2.1 dX0_put_18 rfl (lv_at hl 1 rfl) ?_
  refine lv_iload C.1 C.2.1 dX0_put_19 (lv_at hl 4 rfl) ?_
  refine jr_iast C B 200 (jk1 (ko_X0_2 k_o) rfl) (jk2 (ko_X0_2 k_o) rfl) r_a1 r_a4 h dX0_put_21 (fun M3 _ _ h B => ?_)
  have o_M3 := B.2.2
  exact jr_vret C B hr hlocks h dX0_put_22
theorem cl_X0_put {p : Program} {l : Launch} {e : Env} {R : Room} {s : State} {m : MethodId} {args : Array Value} {below : List Frame} {meth : Method} {c : Code} {H : Heap} {locs : List Loc} {cells slots : Nat} {Q : State → Prop} {cc : ByteArray} {nL : Nat} {own : String} {G : jG} {H0 : Heap} {pc idx : Nat} {ls : Array Slot} {rest : List Value} {M : jM} {o a1 a2 a3 a4 : Int} {k : jM → Prop} (C : Cx G p s args m c cc nL own) (hl : ls.size = nL) (B : Hp G M H0 H locs) (q1 : Cond.methodLink own idx yX0_put ∈ tb) (hR : (rmm 0 0).frames + 1 ≤ R.frames ∧ 8 + (5 + 11) + (rmm 0 0).locals ≤ R.locals) (hcs : cells ≤ R.cells ∧ slots ≤ R.slots) (hW : (rest.map fun v => v.category).sum ≤ 8) (k_o : jK o = 1) (r_a1 : jR a1) (r_a2 : jR a2) (r_a3 : jR a3) (r_a4 : jR a4) (h : w_X0_put M o a1 a2 a3 a4 k) (hdg : decode cc pc = .ok (.invokevirtual idx, 3)) (kk : ∀ (M' : jM) (H1 : Heap) (locs1 : List Loc), k M' → Hp G M' H0 H1 locs1 → W p l e R s m args below meth c H1 locs1 cells slots Q (F0 m (pc + 3) ls rest)) : W p l e R s m args below meth c H locs cells slots Q (F0 m pc ls (.int (jI a4) :: .int (jI a3) :: .int (jI a2) :: .int (jI a1) :: .ref (jD G o) :: rest)) :=
  jr_callV B (jr_runV (o := o) (As := [.int (jI a1), .int (jI a2), .int (jI a3), .int (jI a4)]) (n := 4) C hl B (m_X0_put B.2.2 k_o r_a1 r_a2 r_a3 r_a4 h) (jE1 k_o) (by omega) rfl q1 q_428 qs_4 q_429 q_7 ⟨by decide, by decide, by decide +kernel⟩ rfl ⟨rfl, rfl⟩ hR hcs rfl hW hdg) (fun M' H1 locs1 hk B1 => kk M' H1 locs1 hk B1)
def lp_X0_add_17 (o : Int) (a1 : Int) (kx17 : Int → jM → Prop) : Nat → Int → jM → Prop
  | 0, _, _ => False
  | n + 1, x2, M3 => (if x2 ≤ 0 then (kx17 x2 M3) else (jB (jW (x2 - 1)) 200 ∧ (w_X0_isBehind M3 o (M3 (o + 1) (jW (x2 - 1))) a1 (fun x9 => (if x9 = 0 then (kx17 x2 M3) else (jB (jW (x2 - 1)) 200 ∧ (jB (jW (x2 - 1)) 200 ∧ (jB (jW (x2 - 1)) 200 ∧ (w_X0_put M3 o x2 (M3 (o + 1) (jW (x2 - 1))) (M3 (o + 2) (jW (x2 - 1))) (M3 (o + 3) (jW (x2 - 1))) (fun M13 => (jL (jW (x2 + (-1))) (fun x14 => (lp_X0_add_17 o a1 kx17 n x14 M13)))))))))))))
def w_X0_add (N : Nat) (M : jM) (o : Int) (a1 : Int) (a2 : Int) (a3 : Int) (k : jM → Prop) : Prop := (if (M o 3) < 200 then (jL (M o 3) (fun x1 => (lp_X0_add_17 o a1 (fun (x4 : Int) (M5 : jM) => (w_X0_put M5 o x4 a1 a2 a3 (fun M6 => (jL (jU M6 o 3 (jW ((M6 o 3) + 1))) (fun M7 => (k M7)))))) N x1 M))) else (k M))
set_option maxHeartbeats 4000000 in
set_option maxRecDepth 100000 in
theorem m_X0_add {l : Launch} {G : jG} {N : Nat} {M : jM} {o a1 a2 a3 : Int} {k : jM → Prop} (o_M : jOK M) (k_o : jK o = 1) (r_a1 : jR a1) (r_a2 : jR a2) (r_a3 : jR a3) (h : w_X0_add N M o a1 a2 a3 k) : Met l yX0_add (wsG yX0_add cX0_add 5 none) (rmm 1 24) (jPc G M [.ref (jD G o), .int (jI a1), .int (jI a2), .int (jI a3)]) (qV G k) 0 0 (gA G) := by
  refine jm_start RX0 rfl (by decide) (Nat.le_of_ble_eq_true rfl) o_M ?_
  intro p e s m args below meth c ls C hr hlocks hl B
  have hl : lv_has ls 5 [(0, .ref (jD G o)), (1, .int (jI a1)), (2, .int (jI a2)), (3, .int (jI a3))] := hl
  unfold w_X0_add at h
  refine lv_aload_n C.1 C.2.1 dX0_add_0 rfl (lv_at hl 0 rfl) ?_
  refine gf_X0_21 C B k_o dX0_add_1 ?_
  refine jr_sipush C dX0_add_4 (by decide) ?_
  refine jr_icmp_lt (tgt := 11) C (o_M o 3).1 (jkc rfl) h dX0_add_7 (by decide) (fun hc7 h => ?_) (fun hc7 h => ?_)
  · refine lv_aload_n C.1 C.2.1 dX0_add_11 rfl (lv_at hl 0 rfl) ?_
    refine gf_X0_21 C B k_o dX0_add_12 ?_
    refine jr_nm h (o_M o 3).1 (fun x1 h r_x1 => ?_)
    refine lv_istore (lv' := [(4, .int (jI x1)), (0, .ref (jD G o)), (1, .int (jI a1)), (2, .int (jI a2)), (3, .int (jI a3))]) C.1 C.2.1 dX0_add_15 hl (by decide) rfl (fun ls hl => ?_)
    obtain ⟨kx17, hkx17, h⟩ : ∃ kx17 : Int → jM → Prop, (∀ (x4 : Int) (M5 : jM) (H : Heap) (locs : List Loc) (ls : Array Slot), kx17 x4 M5 → jR x4 → Hp G M5 s.heap H locs → lv_has ls 5 [(4, .int (jI x4)), (0, .ref (jD G o)), (1, .int (jI a1)), (2, .int (jI a2)), (3, .int (jI a3))] → W p l e (rmm 1 24) s m args below meth c H locs 0 0 (MQ below (qV G k) args s 0 0 (gA G)) (F0 m 78 ls [])) ∧ lp_X0_add_17 o a1 kx17 N x1 M := by
      refine ⟨_, ?_, h⟩
      intro x4 M5 H locs ls h r_x4 B hl
      have o_M5 := B.2.2
      refine lv_aload_n C.1 C.2.1 dX0_add_78 rfl (lv_at hl 1 rfl) ?_
      refine lv_iload C.1 C.2.1 dX0_add_79 (lv_at hl 0 rfl) ?_
      refine lv_iload_n C.1 C.2.1 dX0_add_81 rfl (lv_at hl 2 rfl) ?_
      refine lv_iload_n C.1 C.2.1 dX0_add_82 rfl (lv_at hl 3 rfl) ?_
      refine lv_iload_n C.1 C.2.1 dX0_add_83 rfl (lv_at hl 4 rfl) ?_
      refine cl_X0_put C hl.1 B q_426 ⟨Nat.le_of_ble_eq_true rfl, Nat.le_of_ble_eq_true rfl⟩ ⟨Nat.zero_le _, Nat.zero_le _⟩ (Nat.le_of_ble_eq_true rfl) k_o r_x4 r_a1 r_a2 r_a3 h dX0_add_84 (fun M6 _ _ h B => ?_)
      have o_M6 := B.2.2
      refine lv_aload_n C.1 C.2.1 dX0_add_87 rfl (lv_at hl 1 rfl) ?_
      refine lv_dup C.1 C.2.1 dX0_add_88 rfl ?_
      refine gf_X0_21 C B k_o dX0_add_89 ?_
      refine jr_iconst C dX0_add_92 ?_
      refine jr_iadd C dX0_add_93 ?_
      refine pf_X0_21 C B k_o (jW_R _) h dX0_add_94 (fun M7 _ _ h B => ?_)
      have o_M7 := B.2.2
      exact jr_vret C B hr hlocks h dX0_add_97
    have hL17 : ∀ (n : Nat) (x2 : Int) (M3 : jM) (H : Heap) (locs : List Loc) (ls : Array Slot), lp_X0_add_17 o a1 kx17 n x2 M3 → jR x2 → Hp G M3 s.heap H locs → lv_has ls 5 [(4, .int (jI x2)), (0, .ref (jD G o)), (1, .int (jI a1)), (2, .int (jI a2)), (3, .int (jI a3))] → W p l e (rmm 1 24) s m args below meth c H locs 0 0 (MQ below (qV G k) args s 0 0 (gA G)) (F0 m 17 ls []) := by
      intro n
      induction n with
      | zero => intro x2 M3 H locs ls h; exact (show False from h).elim
      | succ n ih17 =>
        intro x2 M3 H locs ls h r_x2 B hl
        have o_M3 := B.2.2
        rw [lp_X0_add_17] at h
        refine lv_iload C.1 C.2.1 dX0_add_17 (lv_at hl 0 rfl) ?_
        refine jr_if_le (tgt := 78) C r_x2 h dX0_add_19 (by decide) (fun hc19 h => ?_) (fun hc19 h => ?_)
        · exact hkx17 _ _ _ _ _ h r_x2 B (lv_sub hl [0, 1, 2, 3, 4] rfl)
        · refine lv_aload_n C.1 C.2.1 dX0_add_22 rfl (lv_at hl 1 rfl) ?_
          refine lv_aload_n C.1 C.2.1 dX0_add_23 rfl (lv_at hl 1 rfl) ?_
          refine gf_X0_9 C B k_o dX0_add_24 ?_
          refine lv_iload C.1 C.2.1 dX0_add_27 (lv_at hl 0 rfl) ?_
          refine jr_iconst C dX0_add_29 ?_
          refine jr_isub C dX0_add_30 ?_
          obtain ⟨g8, h⟩ := h
          refine jr_iald C B 200 (jk1 (ko_X0_0 k_o) rfl) (jk2 (ko_X0_0 k_o) rfl) (jW_R _) g8 dX0_add_31 ?_
          refine lv_iload_n C.1 C.2.1 dX0_add_32 rfl (lv_at hl 2 rfl) ?_
          refine cl_X0_isBehind C hl.1 B q_422 ⟨Nat.le_of_ble_eq_true rfl, Nat.le_of_ble_eq_true rfl⟩ ⟨Nat.zero_le _, Nat.zero_le _⟩ (Nat.le_of_ble_eq_true rfl) k_o (o_M3 (o + 1) (jW (x2 - 1))).1 r_a1 h dX0_add_33 (fun x9 z_x9 _ _ h B => ?_)
          refine jr_if_eq (tgt := 78) C (zR z_x9) h dX0_add_36 (by decide) (fun hc36 h => ?_) (fun hc36 h => ?_)
          · exact hkx17 _ _ _ _ _ h r_x2 B (lv_sub hl [0, 1, 2, 3, 4] rfl)
          · refine lv_aload_n C.1 C.2.1 dX0_add_39 rfl (lv_at hl 1 rfl) ?_
            refine lv_iload C.1 C.2.1 dX0_add_40 (lv_at hl 0 rfl) ?_
            refine lv_aload_n C.1 C.2.1 dX0_add_42 rfl (lv_at hl 1 rfl) ?_
            refine gf_X0_9 C B k_o dX0_add_43 ?_
            refine lv_iload C.1 C.2.1 dX0_add_46 (lv_at hl 0 rfl) ?_
            refine jr_iconst C dX0_add_48 ?_
            refine jr_isub C dX0_add_49 ?_
            obtain ⟨g10, h⟩ := h
            refine jr_iald C B 200 (jk1 (ko_X0_0 k_o) rfl) (jk2 (ko_X0_0 k_o) rfl) (jW_R _) g10 dX0_add_50 ?_
            refine lv_aload_n C.1 C.2.1 dX0_add_51 rfl (lv_at hl 1 rfl) ?_
            refine gf_X0_15 C B k_o dX0_add_52 ?_
            refine lv_iload C.1 C.2.1 dX0_add_55 (lv_at hl 0 rfl) ?_
            refine jr_iconst C dX0_add_57 ?_
            refine jr_isub C dX0_add_58 ?_
            obtain ⟨g11, h⟩ := h
            refine jr_iald C B 200 (jk1 (ko_X0_1 k_o) rfl) (jk2 (ko_X0_1 k_o) rfl) (jW_R _) g11 dX0_add_59 ?_
            refine lv_aload_n C.1 C.2.1 dX0_add_60 rfl (lv_at hl 1 rfl) ?_
            refine gf_X0_18 C B k_o dX0_add_61 ?_
            refine lv_iload C.1 C.2.1 dX0_add_64 (lv_at hl 0 rfl) ?_
            refine jr_iconst C dX0_add_66 ?_
            refine jr_isub C dX0_add_67 ?_
            obtain ⟨g12, h⟩ := h
            refine jr_iald C B 200 (jk1 (ko_X0_2 k_o) rfl) (jk2 (ko_X0_2 k_o) rfl) (jW_R _) g12 dX0_add_68 ?_
            refine cl_X0_put C hl.1 B q_426 ⟨Nat.le_of_ble_eq_true rfl, Nat.le_of_ble_eq_true rfl⟩ ⟨Nat.zero_le _, Nat.zero_le _⟩ (Nat.le_of_ble_eq_true rfl) k_o r_x2 (o_M3 (o + 1) (jW (x2 - 1))).1 (o_M3 (o + 2) (jW (x2 - 1))).1 (o_M3 (o + 3) (jW (x2 - 1))).1 h dX0_add_69 (fun M13 _ _ h B => ?_)
            have o_M13 := B.2.2
            refine jr_iinc (k := 0) (lv' := fun x14 => [(4, .int (jI x14)), (0, .ref (jD G o)), (1, .int (jI a1)), (2, .int (jI a2)), (3, .int (jI a3))]) C h hl rfl (by decide) (fun _ => rfl) dX0_add_72 (fun x14 h r_x14 ls hl => ?_)
            refine lv_goto (tgt := 17) C.1 C.2.1 dX0_add_75 (by decide) ?_
            exact ih17 _ _ _ _ _ h r_x14 B (lv_sub hl [0, 1, 2, 3, 4] rfl)
    exact hL17 N _ _ _ _ _ h r_x1 B (lv_sub hl [0, 1, 2, 3, 4] rfl)
  · exact jr_vret C B hr hlocks h dX0_add_10
theorem cl_X0_add {p : Program} {l : Launch} {e : Env} {R : Room} {s : State} {m : MethodId} {args : Array Value} {below : List Frame} {meth : Method} {c : Code} {H : Heap} {locs : List Loc} {cells slots : Nat} {Q : State → Prop} {cc : ByteArray} {nL : Nat} {own : String} {G : jG} {H0 : Heap} {pc idx : Nat} {ls : Array Slot} {rest : List Value} {N : Nat} {M : jM} {o a1 a2 a3 : Int} {k : jM → Prop} (C : Cx G p s args m c cc nL own) (hl : ls.size = nL) (B : Hp G M H0 H locs) (q1 : Cond.methodLink own idx yX0_add ∈ tb) (hR : (rmm 1 24).frames + 1 ≤ R.frames ∧ 8 + (5 + 11) + (rmm 1 24).locals ≤ R.locals) (hcs : cells ≤ R.cells ∧ slots ≤ R.slots) (hW : (rest.map fun v => v.category).sum ≤ 8) (k_o : jK o = 1) (r_a1 : jR a1) (r_a2 : jR a2) (r_a3 : jR a3) (h : w_X0_add N M o a1 a2 a3 k) (hdg : decode cc pc = .ok (.invokevirtual idx, 3)) (kk : ∀ (M' : jM) (H1 : Heap) (locs1 : List Loc), k M' → Hp G M' H0 H1 locs1 → W p l e R s m args below meth c H1 locs1 cells slots Q (F0 m (pc + 3) ls rest)) : W p l e R s m args below meth c H locs cells slots Q (F0 m pc ls (.int (jI a3) :: .int (jI a2) :: .int (jI a1) :: .ref (jD G o) :: rest)) :=
  jr_callV B (jr_runV (o := o) (As := [.int (jI a1), .int (jI a2), .int (jI a3)]) (n := 3) C hl B (m_X0_add B.2.2 k_o r_a1 r_a2 r_a3 h) (jE1 k_o) (by omega) rfl q1 q_419 q_420 q_421 q_7 ⟨by decide, by decide, by decide +kernel⟩ rfl ⟨rfl, rfl⟩ hR hcs rfl hW hdg) (fun M' H1 locs1 hk B1 => kk M' H1 locs1 hk B1)
def lp_X1_emptyFields_2 (o : Int) (kx2 : jM → Prop) : Nat → Int → jM → Prop
  | 0, _, _ => False
  | n + 1, x1, M2 => (if x1 < 4 then (jB x1 4 ∧ jL (jU M2 (o + 1) x1 0) (fun M4 => (jL (jW (x1 + 1)) (fun x5 => (lp_X1_emptyFields_2 o kx2 n x5 M4))))) else (kx2 M2))
def w_X1_emptyFields (N : Nat) (M : jM) (o : Int) (k : jM → Prop) : Prop := (lp_X1_emptyFields_2 o (fun (M3 : jM) => (k M3)) N 0 M)
set_option maxHeartbeats 4000000 in
set_option maxRecDepth 100000 in
theorem m_X1_emptyFields {l : Launch} {G : jG} {N : Nat} {M : jM} {o : Int} {k : jM → Prop} (o_M : jOK M) (k_o : jK o = 2) (h : w_X1_emptyFields N M o k) : Met l yX1_emptyFields (wsG yX1_emptyFields cX1_emptyFields 2 none) (rmm 0 0) (jPc G M [.ref (jD G o)]) (qV G k) 0 0 (gA G) := by
  refine jm_start RX1 rfl (by decide) (Nat.le_of_ble_eq_true rfl) o_M ?_
  intro p e s m args below meth c ls C hr hlocks hl B
  have hl : lv_has ls 2 [(0, .ref (jD G o))] := hl
  unfold w_X1_emptyFields at h
  refine jr_iconst C dX1_emptyFields_0 ?_
  refine lv_istore_n (lv' := [(1, .int (jI 0)), (0, .ref (jD G o))]) C.1 C.2.1 dX1_emptyFields_1 rfl hl (by decide) rfl (fun ls hl => ?_)
  obtain ⟨kx2, hkx2, h⟩ : ∃ kx2 : jM → Prop, (∀ (M3 : jM) (H : Heap) (locs : List Loc) (ls : Array Slot), kx2 M3 → Hp G M3 s.heap H locs → lv_has ls 2 [] → W p l e (rmm 0 0) s m args below meth c H locs 0 0 (MQ below (qV G k) args s 0 0 (gA G)) (F0 m 20 ls [])) ∧ lp_X1_emptyFields_2 o kx2 N 0 M := by
    refine ⟨_, ?_, h⟩
    intro M3 H locs ls h  B hl
    have o_M3 := B.2.2
    exact jr_vret C B hr hlocks h dX1_emptyFields_20
  have hL2 : ∀ (n : Nat) (x1 : Int) (M2 : jM) (H : Heap) (locs : List Loc) (ls : Array Slot), lp_X1_emptyFields_2 o kx2 n x1 M2 → jR x1 → Hp G M2 s.heap H locs → lv_has ls 2 [(1, .int (jI x1)), (0, .ref (jD G o))] → W p l e (rmm 0 0) s m args below meth c H locs 0 0 (MQ below (qV G k) args s 0 0 (gA G)) (F0 m 2 ls []) := by
    intro n
    induction n with
    | zero => intro x1 M2 H locs ls h; exact (show False from h).elim
    | succ n ih2 =>
      intro x1 M2 H locs ls h r_x1 B hl
      have o_M2 := B.2.2
      rw [lp_X1_emptyFields_2] at h
      refine lv_iload_n C.1 C.2.1 dX1_emptyFields_2 rfl (lv_at hl 0 rfl) ?_
      refine jr_iconst C dX1_emptyFields_3 ?_
      refine jr_icmp_ge (tgt := 20) C r_x1 (jkc rfl) h dX1_emptyFields_4 (by decide) (fun hc4 h => ?_) (fun hc4 h => ?_)
      · refine lv_aload_n C.1 C.2.1 dX1_emptyFields_7 rfl (lv_at hl 1 rfl) ?_
        refine gf_X1_19 C B k_o dX1_emptyFields_8 ?_
        refine lv_iload_n C.1 C.2.1 dX1_emptyFields_11 rfl (lv_at hl 0 rfl) ?_
        refine jr_iconst C dX1_emptyFields_12 ?_
        refine jr_iast C B 4 (jk1 (ko_X1_2 k_o) rfl) (jk2 (ko_X1_2 k_o) rfl) r_x1 (jkc rfl) h dX1_emptyFields_13 (fun M4 _ _ h B => ?_)
        have o_M4 := B.2.2
        refine jr_iinc (k := 0) (lv' := fun x5 => [(1, .int (jI x5)), (0, .ref (jD G o))]) C h hl rfl (by decide) (fun _ => rfl) dX1_emptyFields_14 (fun x5 h r_x5 ls hl => ?_)
        refine lv_goto (tgt := 2) C.1 C.2.1 dX1_emptyFields_17 (by decide) ?_
        exact ih2 _ _ _ _ _ h r_x5 B (lv_sub hl [0, 1] rfl)
      · exact hkx2 _ _ _ _ h  B (lv_sub hl [] rfl)
  exact hL2 N _ _ _ _ _ h (jkc rfl) B (lv_sub hl [0, 1] rfl)
theorem cl_X1_emptyFields {p : Program} {l : Launch} {e : Env} {R : Room} {s : State} {m : MethodId} {args : Array Value} {below : List Frame} {meth : Method} {c : Code} {H : Heap} {locs : List Loc} {cells slots : Nat} {Q : State → Prop} {cc : ByteArray} {nL : Nat} {own : String} {G : jG} {H0 : Heap} {pc idx : Nat} {ls : Array Slot} {rest : List Value} {N : Nat} {M : jM} {o : Int} {k : jM → Prop} (C : Cx G p s args m c cc nL own) (hl : ls.size = nL) (B : Hp G M H0 H locs) (q1 : Cond.methodLink own idx yX1_emptyFields ∈ tb) (hR : (rmm 0 0).frames + 1 ≤ R.frames ∧ 8 + (2 + 11) + (rmm 0 0).locals ≤ R.locals) (hcs : cells ≤ R.cells ∧ slots ≤ R.slots) (hW : (rest.map fun v => v.category).sum ≤ 8) (k_o : jK o = 2) (h : w_X1_emptyFields N M o k) (hdg : decode cc pc = .ok (.invokevirtual idx, 3)) (kk : ∀ (M' : jM) (H1 : Heap) (locs1 : List Loc), k M' → Hp G M' H0 H1 locs1 → W p l e R s m args below meth c H1 locs1 cells slots Q (F0 m (pc + 3) ls rest)) : W p l e R s m args below meth c H locs cells slots Q (F0 m pc ls (.ref (jD G o) :: rest)) :=
  jr_callV B (jr_runV (o := o) (As := []) (n := 0) C hl B (m_X1_emptyFields B.2.2 k_o h) (jE2 k_o) (by omega) rfl q1 q_466 q_467 q_468 q_3 ⟨by decide, by decide, by decide +kernel⟩ rfl ⟨rfl, rfl⟩ hR hcs rfl hW hdg) (fun M' H1 locs1 hk B1 => kk M' H1 locs1 hk B1)
def w_X1_begin (N : Nat) (M : jM) (o : Int) (a1 : Int) (k : jM → Prop) : Prop := (jL (jU M o 0 a1) (fun M1 => (jL (jU M1 o 1 (-1000007)) (fun M2 => (w_X1_emptyFields N M2 o (fun M3 => (k M3)))))))
set_option maxHeartbeats 4000000 in
set_option maxRecDepth 100000 in
theorem m_X1_begin {l : Launch} {G : jG} {N : Nat} {M : jM} {o a1 : Int} {k : jM → Prop} (o_M : jOK M) (k_o : jK o = 2) (r_a1 : jR a1) (h : w_X1_begin N M o a1 k) : Met l yX1_begin (wsG yX1_begin cX1_begin 2 none) (rmm 1 21) (jPc G M [.ref (jD G o), .int (jI a1)]) (qV G k) 0 0 (gA G) := by
  refine jm_start RX1 rfl (by decide) (Nat.le_of_ble_eq_true rfl) o_M ?_
  intro p e s m args below meth c ls C hr hlocks hl B
  have hl : lv_has ls 2 [(0, .ref (jD G o)), (1, .int (jI a1))] := hl
  unfold w_X1_begin at h
  refine lv_aload_n C.1 C.2.1 dX1_begin_0 rfl (lv_at hl 0 rfl) ?_
  refine lv_iload_n C.1 C.2.1 dX1_begin_1 rfl (lv_at hl 1 rfl) ?_
  refine pf_X1_9 C B k_o r_a1 h dX1_begin_2 (fun M1 _ _ h B => ?_)
  have o_M1 := B.2.2
  refine lv_aload_n C.1 C.2.1 dX1_begin_5 rfl (lv_at hl 0 rfl) ?_
  refine jr_ldc (n := -1000007) C q_31 (by decide) dX1_begin_6 ?_
  refine pf_X1_16 C B k_o (jkc rfl) h dX1_begin_8 (fun M2 _ _ h B => ?_)
  have o_M2 := B.2.2
  refine lv_aload_n C.1 C.2.1 dX1_begin_11 rfl (lv_at hl 0 rfl) ?_
  refine cl_X1_emptyFields C hl.1 B q_465 ⟨Nat.le_of_ble_eq_true rfl, Nat.le_of_ble_eq_true rfl⟩ ⟨Nat.zero_le _, Nat.zero_le _⟩ (Nat.le_of_ble_eq_true rfl) k_o h dX1_begin_12 (fun M3 _ _ h B => ?_)
  have o_M3 := B.2.2
  exact jr_vret C B hr hlocks h dX1_begin_15
theorem cl_X1_begin {p : Program} {l : Launch} {e : Env} {R : Room} {s : State} {m : MethodId} {args : Array Value} {below : List Frame} {meth : Method} {c : Code} {H : Heap} {locs : List Loc} {cells slots : Nat} {Q : State → Prop} {cc : ByteArray} {nL : Nat} {own : String} {G : jG} {H0 : Heap} {pc idx : Nat} {ls : Array Slot} {rest : List Value} {N : Nat} {M : jM} {o a1 : Int} {k : jM → Prop} (C : Cx G p s args m c cc nL own) (hl : ls.size = nL) (B : Hp G M H0 H locs) (q1 : Cond.methodLink own idx yX1_begin ∈ tb) (hR : (rmm 1 21).frames + 1 ≤ R.frames ∧ 8 + (2 + 11) + (rmm 1 21).locals ≤ R.locals) (hcs : cells ≤ R.cells ∧ slots ≤ R.slots) (hW : (rest.map fun v => v.category).sum ≤ 8) (k_o : jK o = 2) (r_a1 : jR a1) (h : w_X1_begin N M o a1 k) (hdg : decode cc pc = .ok (.invokevirtual idx, 3)) (kk : ∀ (M' : jM) (H1 : Heap) (locs1 : List Loc), k M' → Hp G M' H0 H1 locs1 → W p l e R s m args below meth c H1 locs1 cells slots Q (F0 m (pc + 3) ls rest)) : W p l e R s m args below meth c H locs cells slots Q (F0 m pc ls (.int (jI a1) :: .ref (jD G o) :: rest)) :=
  jr_callV B (jr_runV (o := o) (As := [.int (jI a1)]) (n := 1) C hl B (m_X1_begin B.2.2 k_o r_a1 h) (jE2 k_o) (by omega) rfl q1 q_462 q_463 q_464 q_3 ⟨by decide, by decide, by decide +kernel⟩ rfl ⟨rfl, rfl⟩ hR hcs rfl hW hdg) (fun M' H1 locs1 hk B1 => kk M' H1 locs1 hk B1)
def w_X1_copyFields (M : jM) (o : Int) (a1 : Int) (k : jM → Prop) : Prop := (jBc 0 0 4 4 4 ∧ jL (jC M (a1 + 1) 0 (o + 1) 0 4) (fun M1 => (jBc 0 0 20 20 20 ∧ jL (jC M1 (a1 + 2) 0 (o + 2) 0 20) (fun M2 => (jBc 0 0 80 80 80 ∧ jL (jC M2 (a1 + 3) 0 (o + 3) 0 80) (fun M3 => (k M3)))))))
set_option maxHeartbeats 4000000 in
set_option maxRecDepth 100000 in
theorem m_X1_copyFields {l : Launch} {G : jG} {M : jM} {o a1 : Int} {k : jM → Prop} (o_M : jOK M) (k_o : jK o = 2) (k_a1 : jK a1 = 2) (h : w_X1_copyFields M o a1 k) : Met l yX1_copyFields (wsG yX1_copyFields cX1_copyFields 2 none) (rmm 1 40) (jPc G M [.ref (jD G o), .ref (jD G a1)]) (qV G k) 0 0 (gA G) := by
  refine jm_start RX1 rfl (by decide) (Nat.le_of_ble_eq_true rfl) o_M ?_
  intro p e s m args below meth c ls C hr hlocks hl B
  have hl : lv_has ls 2 [(0, .ref (jD G o)), (1, .ref (jD G a1))] := hl
  unfold w_X1_copyFields at h
  refine lv_aload_n C.1 C.2.1 dX1_copyFields_0 rfl (lv_at hl 1 rfl) ?_
  refine gf_X1_19 C B k_a1 dX1_copyFields_1 ?_
  refine jr_iconst C dX1_copyFields_4 ?_
  refine lv_aload_n C.1 C.2.1 dX1_copyFields_5 rfl (lv_at hl 0 rfl) ?_
  refine gf_X1_19 C B k_o dX1_copyFields_6 ?_
  refine jr_iconst C dX1_copyFields_9 ?_
  refine jr_iconst C dX1_copyFields_10 ?_
  refine jr_copy C B hl.1 q_212 q_214 q_213 q_9 4 4 (Or.inl (jk1 (ko_X1_2 k_a1) rfl)) (jk3 (ko_X1_2 k_o) (ko_X1_2 k_a1) rfl) (jk2 (ko_X1_2 k_a1) rfl) (jk2 (ko_X1_2 k_o) rfl) (jkc rfl) (jkc rfl) (jkc rfl) h (Nat.le_of_ble_eq_true rfl) (Nat.le_of_ble_eq_true rfl) dX1_copyFields_11 (fun M1 _ _ h B => ?_)
  have o_M1 := B.2.2
  refine lv_aload_n C.1 C.2.1 dX1_copyFields_14 rfl (lv_at hl 1 rfl) ?_
  refine gf_X1_23 C B k_a1 dX1_copyFields_15 ?_
  refine jr_iconst C dX1_copyFields_18 ?_
  refine lv_aload_n C.1 C.2.1 dX1_copyFields_19 rfl (lv_at hl 0 rfl) ?_
  refine gf_X1_23 C B k_o dX1_copyFields_20 ?_
  refine jr_iconst C dX1_copyFields_23 ?_
  refine jr_bipush C dX1_copyFields_24 (by decide) ?_
  refine jr_copy C B hl.1 q_212 q_214 q_213 q_9 20 20 (Or.inl (jk1 (ko_X1_3 k_a1) rfl)) (jk3 (ko_X1_3 k_o) (ko_X1_3 k_a1) rfl) (jk2 (ko_X1_3 k_a1) rfl) (jk2 (ko_X1_3 k_o) rfl) (jkc rfl) (jkc rfl) (jkc rfl) h (Nat.le_of_ble_eq_true rfl) (Nat.le_of_ble_eq_true rfl) dX1_copyFields_26 (fun M2 _ _ h B => ?_)
  have o_M2 := B.2.2
  refine lv_aload_n C.1 C.2.1 dX1_copyFields_29 rfl (lv_at hl 1 rfl) ?_
  refine gf_X1_26 C B k_a1 dX1_copyFields_30 ?_
  refine jr_iconst C dX1_copyFields_33 ?_
  refine lv_aload_n C.1 C.2.1 dX1_copyFields_34 rfl (lv_at hl 0 rfl) ?_
  refine gf_X1_26 C B k_o dX1_copyFields_35 ?_
  refine jr_iconst C dX1_copyFields_38 ?_
  refine jr_bipush C dX1_copyFields_39 (by decide) ?_
  refine jr_copy C B hl.1 q_212 q_214 q_213 q_9 80 80 (Or.inl (jk1 (ko_X1_4 k_a1) rfl)) (jk3 (ko_X1_4 k_o) (ko_X1_4 k_a1) rfl) (jk2 (ko_X1_4 k_a1) rfl) (jk2 (ko_X1_4 k_o) rfl) (jkc rfl) (jkc rfl) (jkc rfl) h (Nat.le_of_ble_eq_true rfl) (Nat.le_of_ble_eq_true rfl) dX1_copyFields_41 (fun M3 _ _ h B => ?_)
  have o_M3 := B.2.2
  exact jr_vret C B hr hlocks h dX1_copyFields_44
theorem cl_X1_copyFields {p : Program} {l : Launch} {e : Env} {R : Room} {s : State} {m : MethodId} {args : Array Value} {below : List Frame} {meth : Method} {c : Code} {H : Heap} {locs : List Loc} {cells slots : Nat} {Q : State → Prop} {cc : ByteArray} {nL : Nat} {own : String} {G : jG} {H0 : Heap} {pc idx : Nat} {ls : Array Slot} {rest : List Value} {M : jM} {o a1 : Int} {k : jM → Prop} (C : Cx G p s args m c cc nL own) (hl : ls.size = nL) (B : Hp G M H0 H locs) (q1 : Cond.methodLink own idx yX1_copyFields ∈ tb) (hR : (rmm 1 40).frames + 1 ≤ R.frames ∧ 8 + (2 + 11) + (rmm 1 40).locals ≤ R.locals) (hcs : cells ≤ R.cells ∧ slots ≤ R.slots) (hW : (rest.map fun v => v.category).sum ≤ 8) (k_o : jK o = 2) (k_a1 : jK a1 = 2) (h : w_X1_copyFields M o a1 k) (hdg : decode cc pc = .ok (.invokevirtual idx, 3)) (kk : ∀ (M' : jM) (H1 : Heap) (locs1 : List Loc), k M' → Hp G M' H0 H1 locs1 → W p l e R s m args below meth c H1 locs1 cells slots Q (F0 m (pc + 3) ls rest)) : W p l e R s m args below meth c H locs cells slots Q (F0 m pc ls (.ref (jD G a1) :: .ref (jD G o) :: rest)) :=
  jr_callV B (jr_runV (o := o) (As := [.ref (jD G a1)]) (n := 1) C hl B (m_X1_copyFields B.2.2 k_o k_a1 h) (jE2 k_o) (by omega) rfl q1 q_209 q_210 q_211 q_3 ⟨by decide, by decide, by decide +kernel⟩ rfl ⟨rfl, rfl⟩ hR hcs rfl hW hdg) (fun M' H1 locs1 hk B1 => kk M' H1 locs1 hk B1)
def w_X1_copyRecord (M : jM) (o : Int) (a1 : Int) (k : jM → Prop) : Prop := (jL (jU M o 0 (M a1 0)) (fun M1 => (jL (jU M1 o 1 (M1 a1 1)) (fun M2 => (w_X1_copyFields M2 o a1 (fun M3 => (k M3)))))))
set_option maxHeartbeats 4000000 in
set_option maxRecDepth 100000 in
theorem m_X1_copyRecord {l : Launch} {G : jG} {M : jM} {o a1 : Int} {k : jM → Prop} (o_M : jOK M) (k_o : jK o = 2) (k_a1 : jK a1 = 2) (h : w_X1_copyRecord M o a1 k) : Met l yX1_copyRecord (wsG yX1_copyRecord cX1_copyRecord 2 none) (rmm 2 61) (jPc G M [.ref (jD G o), .ref (jD G a1)]) (qV G k) 0 0 (gA G) := by
  refine jm_start RX1 rfl (by decide) (Nat.le_of_ble_eq_true rfl) o_M ?_
  intro p e s m args below meth c ls C hr hlocks hl B
  have hl : lv_has ls 2 [(0, .ref (jD G o)), (1, .ref (jD G a1))] := hl
  unfold w_X1_copyRecord at h
  refine lv_aload_n C.1 C.2.1 dX1_copyRecord_0 rfl (lv_at hl 0 rfl) ?_
  refine lv_aload_n C.1 C.2.1 dX1_copyRecord_1 rfl (lv_at hl 1 rfl) ?_
  refine gf_X1_9 C B k_a1 dX1_copyRecord_2 ?_
  refine pf_X1_9 C B k_o (o_M a1 0).1 h dX1_copyRecord_5 (fun M1 _ _ h B => ?_)
  have o_M1 := B.2.2
  refine lv_aload_n C.1 C.2.1 dX1_copyRecord_8 rfl (lv_at hl 0 rfl) ?_
  refine lv_aload_n C.1 C.2.1 dX1_copyRecord_9 rfl (lv_at hl 1 rfl) ?_
  refine gf_X1_16 C B k_a1 dX1_copyRecord_10 ?_
  refine pf_X1_16 C B k_o (o_M1 a1 1).1 h dX1_copyRecord_13 (fun M2 _ _ h B => ?_)
  have o_M2 := B.2.2
  refine lv_aload_n C.1 C.2.1 dX1_copyRecord_16 rfl (lv_at hl 0 rfl) ?_
  refine lv_aload_n C.1 C.2.1 dX1_copyRecord_17 rfl (lv_at hl 1 rfl) ?_
  refine cl_X1_copyFields C hl.1 B q_208 ⟨Nat.le_of_ble_eq_true rfl, Nat.le_of_ble_eq_true rfl⟩ ⟨Nat.zero_le _, Nat.zero_le _⟩ (Nat.le_of_ble_eq_true rfl) k_o k_a1 h dX1_copyRecord_18 (fun M3 _ _ h B => ?_)
  have o_M3 := B.2.2
  exact jr_vret C B hr hlocks h dX1_copyRecord_21
theorem cl_X1_copyRecord {p : Program} {l : Launch} {e : Env} {R : Room} {s : State} {m : MethodId} {args : Array Value} {below : List Frame} {meth : Method} {c : Code} {H : Heap} {locs : List Loc} {cells slots : Nat} {Q : State → Prop} {cc : ByteArray} {nL : Nat} {own : String} {G : jG} {H0 : Heap} {pc idx : Nat} {ls : Array Slot} {rest : List Value} {M : jM} {o a1 : Int} {k : jM → Prop} (C : Cx G p s args m c cc nL own) (hl : ls.size = nL) (B : Hp G M H0 H locs) (q1 : Cond.methodLink own idx yX1_copyRecord ∈ tb) (hR : (rmm 2 61).frames + 1 ≤ R.frames ∧ 8 + (2 + 11) + (rmm 2 61).locals ≤ R.locals) (hcs : cells ≤ R.cells ∧ slots ≤ R.slots) (hW : (rest.map fun v => v.category).sum ≤ 8) (k_o : jK o = 2) (k_a1 : jK a1 = 2) (h : w_X1_copyRecord M o a1 k) (hdg : decode cc pc = .ok (.invokevirtual idx, 3)) (kk : ∀ (M' : jM) (H1 : Heap) (locs1 : List Loc), k M' → Hp G M' H0 H1 locs1 → W p l e R s m args below meth c H1 locs1 cells slots Q (F0 m (pc + 3) ls rest)) : W p l e R s m args below meth c H locs cells slots Q (F0 m pc ls (.ref (jD G a1) :: .ref (jD G o) :: rest)) :=
  jr_callV B (jr_runV (o := o) (As := [.ref (jD G a1)]) (n := 1) C hl B (m_X1_copyRecord B.2.2 k_o k_a1 h) (jE2 k_o) (by omega) rfl q1 q_205 q_206 q_207 q_3 ⟨by decide, by decide, by decide +kernel⟩ rfl ⟨rfl, rfl⟩ hR hcs rfl hW hdg) (fun M' H1 locs1 hk B1 => kk M' H1 locs1 hk B1)
def w_X1_isOpenTo (M : jM) (o : Int) (a1 : Int) (k : Int → Prop) : Prop := (if (M o 1) = (-1000007) then (k 1) else (if (M o 1) = a1 then (k 1) else (k 0)))
set_option maxHeartbeats 4000000 in
set_option maxRecDepth 100000 in
theorem m_X1_isOpenTo {l : Launch} {G : jG} {M : jM} {o a1 : Int} {k : Int → Prop} (o_M : jOK M) (k_o : jK o = 2) (r_a1 : jR a1) (h : w_X1_isOpenTo M o a1 k) : Met l yX1_isOpenTo (wsG yX1_isOpenTo cX1_isOpenTo 2 (some .boolean)) (rmm 0 0) (jPc G M [.ref (jD G o), .int (jI a1)]) (qZ G (fun r M' => M' = M ∧ k r)) 0 0 (gA G) := by
  refine jm_start RX1 rfl (by decide) (Nat.le_of_ble_eq_true rfl) o_M ?_
  intro p e s m args below meth c ls C hr hlocks hl B
  have hl : lv_has ls 2 [(0, .ref (jD G o)), (1, .int (jI a1))] := hl
  unfold w_X1_isOpenTo at h
  refine lv_aload_n C.1 C.2.1 dX1_isOpenTo_0 rfl (lv_at hl 0 rfl) ?_
  refine gf_X1_16 C B k_o dX1_isOpenTo_1 ?_
  refine jr_ldc (n := -1000007) C q_31 (by decide) dX1_isOpenTo_4 ?_
  refine jr_icmp_eq (tgt := 17) C (o_M o 1).1 (jkc rfl) h dX1_isOpenTo_6 (by decide) (fun hc6 h => ?_) (fun hc6 h => ?_)
  · refine jr_iconst C dX1_isOpenTo_17 ?_
    refine lv_goto (tgt := 22) C.1 C.2.1 dX1_isOpenTo_18 (by decide) ?_
    exact jr_zret C B hr hlocks (Or.inr rfl) ⟨rfl, h⟩ dX1_isOpenTo_22
  · refine lv_aload_n C.1 C.2.1 dX1_isOpenTo_9 rfl (lv_at hl 0 rfl) ?_
    refine gf_X1_16 C B k_o dX1_isOpenTo_10 ?_
    refine lv_iload_n C.1 C.2.1 dX1_isOpenTo_13 rfl (lv_at hl 1 rfl) ?_
    refine jr_icmp_ne (tgt := 21) C (o_M o 1).1 r_a1 h dX1_isOpenTo_14 (by decide) (fun hc14 h => ?_) (fun hc14 h => ?_)
    · refine jr_iconst C dX1_isOpenTo_17 ?_
      refine lv_goto (tgt := 22) C.1 C.2.1 dX1_isOpenTo_18 (by decide) ?_
      exact jr_zret C B hr hlocks (Or.inr rfl) ⟨rfl, h⟩ dX1_isOpenTo_22
    · refine jr_iconst C dX1_isOpenTo_21 ?_
      exact jr_zret C B hr hlocks (Or.inl rfl) ⟨rfl, h⟩ dX1_isOpenTo_22
theorem cl_X1_isOpenTo {p : Program} {l : Launch} {e : Env} {R : Room} {s : State} {m : MethodId} {args : Array Value} {below : List Frame} {meth : Method} {c : Code} {H : Heap} {locs : List Loc} {cells slots : Nat} {Q : State → Prop} {cc : ByteArray} {nL : Nat} {own : String} {G : jG} {H0 : Heap} {pc idx : Nat} {ls : Array Slot} {rest : List Value} {M : jM} {o a1 : Int} {k : Int → Prop} (C : Cx G p s args m c cc nL own) (hl : ls.size = nL) (B : Hp G M H0 H locs) (q1 : Cond.methodLink own idx yX1_isOpenTo ∈ tb) (hR : (rmm 0 0).frames + 1 ≤ R.frames ∧ 8 + (2 + 11) + (rmm 0 0).locals ≤ R.locals) (hcs : cells ≤ R.cells ∧ slots ≤ R.slots) (hW : (rest.map fun v => v.category).sum ≤ 8) (k_o : jK o = 2) (r_a1 : jR a1) (h : w_X1_isOpenTo M o a1 k) (hdg : decode cc pc = .ok (.invokevirtual idx, 3)) (kk : ∀ (r : Int), (r = 0 ∨ r = 1) → ∀ (H1 : Heap) (locs1 : List Loc), k r → Hp G M H0 H1 locs1 → W p l e R s m args below meth c H1 locs1 cells slots Q (F0 m (pc + 3) ls (.int (jI r) :: rest))) : W p l e R s m args below meth c H locs cells slots Q (F0 m pc ls (.int (jI a1) :: .ref (jD G o) :: rest)) :=
  jr_callZ B (jr_runV (o := o) (As := [.int (jI a1)]) (n := 1) C hl B (m_X1_isOpenTo B.2.2 k_o r_a1 h) (jE2 k_o) (by omega) rfl q1 q_483 q_484 q_485 q_3 ⟨by decide, by decide, by decide +kernel⟩ rfl ⟨rfl, rfl⟩ hR hcs rfl hW hdg) (fun r M' H1 locs1 hr hk B1 => by obtain ⟨rfl, hk⟩ := hk; exact kk r hr H1 locs1 hk B1)
def w_X6_isBelow (a1 : Int) (a2 : Int) (k : Int → Prop) : Prop := (if a1 < 0 then (k 0) else (if a1 < a2 then (k 1) else (k 0)))
set_option maxHeartbeats 4000000 in
set_option maxRecDepth 100000 in
theorem m_X6_isBelow {l : Launch} {G : jG} {M : jM} {a1 a2 : Int} {k : Int → Prop} (o_M : jOK M) (r_a1 : jR a1) (r_a2 : jR a2) (h : w_X6_isBelow a1 a2 k) : Met l yX6_isBelow (wsG yX6_isBelow cX6_isBelow 2 (some .boolean)) (rmm 0 0) (jPc G M [.int (jI a1), .int (jI a2)]) (qZ G (fun r M' => M' = M ∧ k r)) 0 0 (gA G) := by
  refine jm_start RX6 rfl (by decide) (Nat.le_of_ble_eq_true rfl) o_M ?_
  intro p e s m args below meth c ls C hr hlocks hl B
  have hl : lv_has ls 2 [(0, .int (jI a1)), (1, .int (jI a2))] := hl
  unfold w_X6_isBelow at h
  refine lv_iload_n C.1 C.2.1 dX6_isBelow_0 rfl (lv_at hl 0 rfl) ?_
  refine jr_if_lt (tgt := 13) C r_a1 h dX6_isBelow_1 (by decide) (fun hc1 h => ?_) (fun hc1 h => ?_)
  · refine jr_iconst C dX6_isBelow_13 ?_
    exact jr_zret C B hr hlocks (Or.inl rfl) ⟨rfl, h⟩ dX6_isBelow_14
  · refine lv_iload_n C.1 C.2.1 dX6_isBelow_4 rfl (lv_at hl 0 rfl) ?_
    refine lv_iload_n C.1 C.2.1 dX6_isBelow_5 rfl (lv_at hl 1 rfl) ?_
    refine jr_icmp_ge (tgt := 13) C r_a1 r_a2 h dX6_isBelow_6 (by decide) (fun hc6 h => ?_) (fun hc6 h => ?_)
    · refine jr_iconst C dX6_isBelow_9 ?_
      refine lv_goto (tgt := 14) C.1 C.2.1 dX6_isBelow_10 (by decide) ?_
      exact jr_zret C B hr hlocks (Or.inr rfl) ⟨rfl, h⟩ dX6_isBelow_14
    · refine jr_iconst C dX6_isBelow_13 ?_
      exact jr_zret C B hr hlocks (Or.inl rfl) ⟨rfl, h⟩ dX6_isBelow_14
theorem cl_X6_isBelow {p : Program} {l : Launch} {e : Env} {R : Room} {s : State} {m : MethodId} {args : Array Value} {below : List Frame} {meth : Method} {c : Code} {H : Heap} {locs : List Loc} {cells slots : Nat} {Q : State → Prop} {cc : ByteArray} {nL : Nat} {own : String} {G : jG} {H0 : Heap} {pc idx : Nat} {ls : Array Slot} {rest : List Value} {M : jM} {a1 a2 : Int} {k : Int → Prop} (C : Cx G p s args m c cc nL own) (hl : ls.size = nL) (B : Hp G M H0 H locs) (q1 : Cond.methodLink own idx yX6_isBelow ∈ tb) (hR : (rmm 0 0).frames + 1 ≤ R.frames ∧ 8 + (2 + 11) + (rmm 0 0).locals ≤ R.locals) (hcs : cells ≤ R.cells ∧ slots ≤ R.slots) (hW : (rest.map fun v => v.category).sum ≤ 8) (r_a1 : jR a1) (r_a2 : jR a2) (h : w_X6_isBelow a1 a2 k) (hdg : decode cc pc = .ok (.invokestatic idx, 3)) (kk : ∀ (r : Int), (r = 0 ∨ r = 1) → ∀ (H1 : Heap) (locs1 : List Loc), k r → Hp G M H0 H1 locs1 → W p l e R s m args below meth c H1 locs1 cells slots Q (F0 m (pc + 3) ls (.int (jI r) :: rest))) : W p l e R s m args below meth c H locs cells slots Q (F0 m pc ls (.int (jI a2) :: .int (jI a1) :: rest)) :=
  jr_callZ B (jr_runS (As := [.int (jI a1), .int (jI a2)]) (n := 2) C hl B (m_X6_isBelow B.2.2 r_a1 r_a2 h) q1 q_234 q_235 q_1 ⟨by decide, by decide, by decide +kernel⟩ rfl ⟨rfl, rfl⟩ hR hcs rfl hW hdg) (fun r M' H1 locs1 hr hk B1 => by obtain ⟨rfl, hk⟩ := hk; exact kk r hr H1 locs1 hk B1)
theorem cn_X6_isBelow {p : Program} {l : Launch} {e : Env} {R : Room} {s : State} {m : MethodId} {args : Array Value} {below : List Frame} {meth : Method} {c : Code} {H : Heap} {locs : List Loc} {cells slots : Nat} {Q : State → Prop} {cc : ByteArray} {nL : Nat} {own : String} {G : jG} {H0 : Heap} {pc idx : Nat} {ls : Array Slot} {rest : List Value} {M : jM} {a1 a2 : Int} {k : Int → Prop} (C : Cx G p s args m c cc nL own) (hl : ls.size = nL) (B : Hp G M H0 H locs) (q1 : va_Nw (.methodLinkNest own idx yX6_isBelow RX6) s) (hR : (rmm 0 0).frames + 1 ≤ R.frames ∧ 8 + (2 + 11) + (rmm 0 0).locals ≤ R.locals) (hcs : cells ≤ R.cells ∧ slots ≤ R.slots) (hW : (rest.map fun v => v.category).sum ≤ 8) (r_a1 : jR a1) (r_a2 : jR a2) (h : w_X6_isBelow a1 a2 k) (hdg : decode cc pc = .ok (.invokestatic idx, 3)) (kk : ∀ (r : Int), (r = 0 ∨ r = 1) → ∀ (H1 : Heap) (locs1 : List Loc), k r → Hp G M H0 H1 locs1 → W p l e R s m args below meth c H1 locs1 cells slots Q (F0 m (pc + 3) ls (.int (jI r) :: rest))) : W p l e R s m args below meth c H locs cells slots Q (F0 m pc ls (.int (jI a2) :: .int (jI a1) :: rest)) :=
  jr_callZ B (jr_runN (host := RX6) (As := [.int (jI a1), .int (jI a2)]) (n := 2) C hl B (m_X6_isBelow B.2.2 r_a1 r_a2 h) q1 q_234 q_235 q_1 ⟨by decide, by decide, by decide +kernel⟩ rfl ⟨rfl, rfl⟩ hR hcs rfl hW hdg) (fun r M' H1 locs1 hr hk B1 => by obtain ⟨rfl, hk⟩ := hk; exact kk r hr H1 locs1 hk B1)
def w_X1_hasValue (M : jM) (o : Int) (a1 : Int) (a2 : Int) (k : Int → Prop) : Prop := (w_X6_isBelow a1 4 (fun x1 => (if x1 = 0 then (k 0) else (jB a1 4 ∧ (w_X6_isBelow a2 (M (o + 1) a1) (fun x3 => (if x3 = 0 then (k 0) else (k 1))))))))
set_option maxHeartbeats 4000000 in
set_option maxRecDepth 100000 in
theorem m_X1_hasValue {l : Launch} {G : jG} {M : jM} {o a1 a2 : Int} {k : Int → Prop} (o_M : jOK M) (k_o : jK o = 2) (r_a1 : jR a1) (r_a2 : jR a2) (h : w_X1_hasValue M o a1 a2 k) : Met l yX1_hasValue (wsG yX1_hasValue cX1_hasValue 3 (some .boolean)) (rmm 1 21) (jPc G M [.ref (jD G o), .int (jI a1), .int (jI a2)]) (qZ G (fun r M' => M' = M ∧ k r)) 0 0 (gA G) := by
  refine jm_start RX1 rfl (by decide) (Nat.le_of_ble_eq_true rfl) o_M ?_
  intro p e s m args below meth c ls C hr hlocks hl B
  have hl : lv_has ls 3 [(0, .ref (jD G o)), (1, .int (jI a1)), (2, .int (jI a2))] := hl
  unfold w_X1_hasValue at h
  refine lv_iload_n C.1 C.2.1 dX1_hasValue_0 rfl (lv_at hl 1 rfl) ?_
  refine jr_iconst C dX1_hasValue_1 ?_
  refine cn_X6_isBelow C hl.1 B C.2.2.2.2.2.2.1 ⟨Nat.le_of_ble_eq_true rfl, Nat.le_of_ble_eq_true rfl⟩ ⟨Nat.zero_le _, Nat.zero_le _⟩ (Nat.le_of_ble_eq_true rfl) r_a1 (jkc rfl) h dX1_hasValue_2 (fun x1 z_x1 _ _ h B => ?_)
  refine jr_if_eq (tgt := 25) C (zR z_x1) h dX1_hasValue_5 (by decide) (fun hc5 h => ?_) (fun hc5 h => ?_)
  · refine jr_iconst C dX1_hasValue_25 ?_
    exact jr_zret C B hr hlocks (Or.inl rfl) ⟨rfl, h⟩ dX1_hasValue_26
  · refine lv_iload_n C.1 C.2.1 dX1_hasValue_8 rfl (lv_at hl 2 rfl) ?_
    refine lv_aload_n C.1 C.2.1 dX1_hasValue_9 rfl (lv_at hl 0 rfl) ?_
    refine gf_X1_19 C B k_o dX1_hasValue_10 ?_
    refine lv_iload_n C.1 C.2.1 dX1_hasValue_13 rfl (lv_at hl 1 rfl) ?_
    obtain ⟨g2, h⟩ := h
    refine jr_iald C B 4 (jk1 (ko_X1_2 k_o) rfl) (jk2 (ko_X1_2 k_o) rfl) r_a1 g2 dX1_hasValue_14 ?_
    refine cn_X6_isBelow C hl.1 B C.2.2.2.2.2.2.1 ⟨Nat.le_of_ble_eq_true rfl, Nat.le_of_ble_eq_true rfl⟩ ⟨Nat.zero_le _, Nat.zero_le _⟩ (Nat.le_of_ble_eq_true rfl) r_a2 (o_M (o + 1) a1).1 h dX1_hasValue_15 (fun x3 z_x3 _ _ h B => ?_)
    refine jr_if_eq (tgt := 25) C (zR z_x3) h dX1_hasValue_18 (by decide) (fun hc18 h => ?_) (fun hc18 h => ?_)
    · refine jr_iconst C dX1_hasValue_25 ?_
      exact jr_zret C B hr hlocks (Or.inl rfl) ⟨rfl, h⟩ dX1_hasValue_26
    · refine jr_iconst C dX1_hasValue_21 ?_
      refine lv_goto (tgt := 26) C.1 C.2.1 dX1_hasValue_22 (by decide) ?_
      exact jr_zret C B hr hlocks (Or.inr rfl) ⟨rfl, h⟩ dX1_hasValue_26
theorem cl_X1_hasValue {p : Program} {l : Launch} {e : Env} {R : Room} {s : State} {m : MethodId} {args : Array Value} {below : List Frame} {meth : Method} {c : Code} {H : Heap} {locs : List Loc} {cells slots : Nat} {Q : State → Prop} {cc : ByteArray} {nL : Nat} {own : String} {G : jG} {H0 : Heap} {pc idx : Nat} {ls : Array Slot} {rest : List Value} {M : jM} {o a1 a2 : Int} {k : Int → Prop} (C : Cx G p s args m c cc nL own) (hl : ls.size = nL) (B : Hp G M H0 H locs) (q1 : Cond.methodLink own idx yX1_hasValue ∈ tb) (hR : (rmm 1 21).frames + 1 ≤ R.frames ∧ 8 + (3 + 11) + (rmm 1 21).locals ≤ R.locals) (hcs : cells ≤ R.cells ∧ slots ≤ R.slots) (hW : (rest.map fun v => v.category).sum ≤ 8) (k_o : jK o = 2) (r_a1 : jR a1) (r_a2 : jR a2) (h : w_X1_hasValue M o a1 a2 k) (hdg : decode cc pc = .ok (.invokevirtual idx, 3)) (kk : ∀ (r : Int), (r = 0 ∨ r = 1) → ∀ (H1 : Heap) (locs1 : List Loc), k r → Hp G M H0 H1 locs1 → W p l e R s m args below meth c H1 locs1 cells slots Q (F0 m (pc + 3) ls (.int (jI r) :: rest))) : W p l e R s m args below meth c H locs cells slots Q (F0 m pc ls (.int (jI a2) :: .int (jI a1) :: .ref (jD G o) :: rest)) :=
  jr_callZ B (jr_runV (o := o) (As := [.int (jI a1), .int (jI a2)]) (n := 2) C hl B (m_X1_hasValue B.2.2 k_o r_a1 r_a2 h) (jE2 k_o) (by omega) rfl q1 q_288 q_289 q_290 q_3 ⟨by decide, by decide, by decide +kernel⟩ rfl ⟨rfl, rfl⟩ hR hcs rfl hW hdg) (fun r M' H1 locs1 hr hk B1 => by obtain ⟨rfl, hk⟩ := hk; exact kk r hr H1 locs1 hk B1)
def w_X1_subCount (M : jM) (o : Int) (a1 : Int) (a2 : Int) (k : Int → Prop) : Prop := (jB (jW ((jW (a1 * 5)) + a2)) 20 ∧ (k (M (o + 2) (jW ((jW (a1 * 5)) + a2)))))
set_option maxHeartbeats 4000000 in
set_option maxRecDepth 100000 in
theorem m_X1_subCount {l : Launch} {G : jG} {M : jM} {o a1 a2 : Int} {k : Int → Prop} (o_M : jOK M) (k_o : jK o = 2) (r_a1 : jR a1) (r_a2 : jR a2) (h : w_X1_subCount M o a1 a2 k) : Met l yX1_subCount (wsG yX1_subCount cX1_subCount 3 (some .int)) (rmm 0 0) (jPc G M [.ref (jD G o), .int (jI a1), .int (jI a2)]) (qI G (fun r M' => M' = M ∧ k r)) 0 0 (gA G) := by
  refine jm_start RX1 rfl (by decide) (Nat.le_of_ble_eq_true rfl) o_M ?_
  intro p e s m args below meth c ls C hr hlocks hl B
  have hl : lv_has ls 3 [(0, .ref (jD G o)), (1, .int (jI a1)), (2, .int (jI a2))] := hl
  unfold w_X1_subCount at h
  refine lv_aload_n C.1 C.2.1 dX1_subCount_0 rfl (lv_at hl 0 rfl) ?_
  refine gf_X1_23 C B k_o dX1_subCount_1 ?_
  refine lv_iload_n C.1 C.2.1 dX1_subCount_4 rfl (lv_at hl 1 rfl) ?_
  refine jr_iconst C dX1_subCount_5 ?_
  refine jr_imul C dX1_subCount_6 ?_
  refine lv_iload_n C.1 C.2.1 dX1_subCount_7 rfl (lv_at hl 2 rfl) ?_
  refine jr_iadd C dX1_subCount_8 ?_
  obtain ⟨g1, h⟩ := h
  refine jr_iald C B 20 (jk1 (ko_X1_3 k_o) rfl) (jk2 (ko_X1_3 k_o) rfl) (jW_R _) g1 dX1_subCount_9 ?_
  exact jr_iret C B hr hlocks (o_M (o + 2) (jW ((jW (a1 * 5)) + a2))).1 ⟨rfl, h⟩ dX1_subCount_10
theorem cl_X1_subCount {p : Program} {l : Launch} {e : Env} {R : Room} {s : State} {m : MethodId} {args : Array Value} {below : List Frame} {meth : Method} {c : Code} {H : Heap} {locs : List Loc} {cells slots : Nat} {Q : State → Prop} {cc : ByteArray} {nL : Nat} {own : String} {G : jG} {H0 : Heap} {pc idx : Nat} {ls : Array Slot} {rest : List Value} {M : jM} {o a1 a2 : Int} {k : Int → Prop} (C : Cx G p s args m c cc nL own) (hl : ls.size = nL) (B : Hp G M H0 H locs) (q1 : Cond.methodLink own idx yX1_subCount ∈ tb) (hR : (rmm 0 0).frames + 1 ≤ R.frames ∧ 8 + (3 + 11) + (rmm 0 0).locals ≤ R.locals) (hcs : cells ≤ R.cells ∧ slots ≤ R.slots) (hW : (rest.map fun v => v.category).sum ≤ 8) (k_o : jK o = 2) (r_a1 : jR a1) (r_a2 : jR a2) (h : w_X1_subCount M o a1 a2 k) (hdg : decode cc pc = .ok (.invokevirtual idx, 3)) (kk : ∀ (r : Int), jR r → ∀ (H1 : Heap) (locs1 : List Loc), k r → Hp G M H0 H1 locs1 → W p l e R s m args below meth c H1 locs1 cells slots Q (F0 m (pc + 3) ls (.int (jI r) :: rest))) : W p l e R s m args below meth c H locs cells slots Q (F0 m pc ls (.int (jI a2) :: .int (jI a1) :: .ref (jD G o) :: rest)) :=
  jr_callI B (jr_runV (o := o) (As := [.int (jI a1), .int (jI a2)]) (n := 2) C hl B (m_X1_subCount B.2.2 k_o r_a1 r_a2 h) (jE2 k_o) (by omega) rfl q1 q_293 q_294 q_295 q_3 ⟨by decide, by decide, by decide +kernel⟩ rfl ⟨rfl, rfl⟩ hR hcs rfl hW hdg) (fun r M' H1 locs1 hr hk B1 => by obtain ⟨rfl, hk⟩ := hk; exact kk r hr H1 locs1 hk B1)
def w_X1_hasSub (M : jM) (o : Int) (a1 : Int) (a2 : Int) (a3 : Int) (k : Int → Prop) : Prop := (w_X1_hasValue M o a1 a2 (fun x1 => (if x1 = 0 then (k 0) else (w_X1_subCount M o a1 a2 (fun x2 => (w_X6_isBelow a3 x2 (fun x3 => (if x3 = 0 then (k 0) else (k 1)))))))))
set_option maxHeartbeats 4000000 in
set_option maxRecDepth 100000 in
theorem m_X1_hasSub {l : Launch} {G : jG} {M : jM} {o a1 a2 a3 : Int} {k : Int → Prop} (o_M : jOK M) (k_o : jK o = 2) (r_a1 : jR a1) (r_a2 : jR a2) (r_a3 : jR a3) (h : w_X1_hasSub M o a1 a2 a3 k) : Met l yX1_hasSub (wsG yX1_hasSub cX1_hasSub 4 (some .boolean)) (rmm 2 43) (jPc G M [.ref (jD G o), .int (jI a1), .int (jI a2), .int (jI a3)]) (qZ G (fun r M' => M' = M ∧ k r)) 0 0 (gA G) := by
  refine jm_start RX1 rfl (by decide) (Nat.le_of_ble_eq_true rfl) o_M ?_
  intro p e s m args below meth c ls C hr hlocks hl B
  have hl : lv_has ls 4 [(0, .ref (jD G o)), (1, .int (jI a1)), (2, .int (jI a2)), (3, .int (jI a3))] := hl
  unfold w_X1_hasSub at h
  refine lv_aload_n C.1 C.2.1 dX1_hasSub_0 rfl (lv_at hl 0 rfl) ?_
  refine lv_iload_n C.1 C.2.1 dX1_hasSub_1 rfl (lv_at hl 1 rfl) ?_
  refine lv_iload_n C.1 C.2.1 dX1_hasSub_2 rfl (lv_at hl 2 rfl) ?_
  refine cl_X1_hasValue C hl.1 B q_304 ⟨Nat.le_of_ble_eq_true rfl, Nat.le_of_ble_eq_true rfl⟩ ⟨Nat.zero_le _, Nat.zero_le _⟩ (Nat.le_of_ble_eq_true rfl) k_o r_a1 r_a2 h dX1_hasSub_3 (fun x1 z_x1 _ _ h B => ?_)
  refine jr_if_eq (tgt := 26) C (zR z_x1) h dX1_hasSub_6 (by decide) (fun hc6 h => ?_) (fun hc6 h => ?_)
  · refine jr_iconst C dX1_hasSub_26 ?_
    exact jr_zret C B hr hlocks (Or.inl rfl) ⟨rfl, h⟩ dX1_hasSub_27
  · refine lv_iload_n C.1 C.2.1 dX1_hasSub_9 rfl (lv_at hl 3 rfl) ?_
    refine lv_aload_n C.1 C.2.1 dX1_hasSub_10 rfl (lv_at hl 0 rfl) ?_
    refine lv_iload_n C.1 C.2.1 dX1_hasSub_11 rfl (lv_at hl 1 rfl) ?_
    refine lv_iload_n C.1 C.2.1 dX1_hasSub_12 rfl (lv_at hl 2 rfl) ?_
    refine cl_X1_subCount C hl.1 B q_305 ⟨Nat.le_of_ble_eq_true rfl, Nat.le_of_ble_eq_true rfl⟩ ⟨Nat.zero_le _, Nat.zero_le _⟩ (Nat.le_of_ble_eq_true rfl) k_o r_a1 r_a2 h dX1_hasSub_13 (fun x2 r_x2 _ _ h B => ?_)
    refine cn_X6_isBelow C hl.1 B C.2.2.2.2.2.2.1 ⟨Nat.le_of_ble_eq_true rfl, Nat.le_of_ble_eq_true rfl⟩ ⟨Nat.zero_le _, Nat.zero_le _⟩ (Nat.le_of_ble_eq_true rfl) r_a3 r_x2 h dX1_hasSub_16 (fun x3 z_x3 _ _ h B => ?_)
    refine jr_if_eq (tgt := 26) C (zR z_x3) h dX1_hasSub_19 (by decide) (fun hc19 h => ?_) (fun hc19 h => ?_)
    · refine jr_iconst C dX1_hasSub_26 ?_
      exact jr_zret C B hr hlocks (Or.inl rfl) ⟨rfl, h⟩ dX1_hasSub_27
    · refine jr_iconst C dX1_hasSub_22 ?_
      refine lv_goto (tgt := 27) C.1 C.2.1 dX1_hasSub_23 (by decide) ?_
      exact jr_zret C B hr hlocks (Or.inr rfl) ⟨rfl, h⟩ dX1_hasSub_27
theorem cl_X1_hasSub {p : Program} {l : Launch} {e : Env} {R : Room} {s : State} {m : MethodId} {args : Array Value} {below : List Frame} {meth : Method} {c : Code} {H : Heap} {locs : List Loc} {cells slots : Nat} {Q : State → Prop} {cc : ByteArray} {nL : Nat} {own : String} {G : jG} {H0 : Heap} {pc idx : Nat} {ls : Array Slot} {rest : List Value} {M : jM} {o a1 a2 a3 : Int} {k : Int → Prop} (C : Cx G p s args m c cc nL own) (hl : ls.size = nL) (B : Hp G M H0 H locs) (q1 : Cond.methodLink own idx yX1_hasSub ∈ tb) (hR : (rmm 2 43).frames + 1 ≤ R.frames ∧ 8 + (4 + 11) + (rmm 2 43).locals ≤ R.locals) (hcs : cells ≤ R.cells ∧ slots ≤ R.slots) (hW : (rest.map fun v => v.category).sum ≤ 8) (k_o : jK o = 2) (r_a1 : jR a1) (r_a2 : jR a2) (r_a3 : jR a3) (h : w_X1_hasSub M o a1 a2 a3 k) (hdg : decode cc pc = .ok (.invokevirtual idx, 3)) (kk : ∀ (r : Int), (r = 0 ∨ r = 1) → ∀ (H1 : Heap) (locs1 : List Loc), k r → Hp G M H0 H1 locs1 → W p l e R s m args below meth c H1 locs1 cells slots Q (F0 m (pc + 3) ls (.int (jI r) :: rest))) : W p l e R s m args below meth c H locs cells slots Q (F0 m pc ls (.int (jI a3) :: .int (jI a2) :: .int (jI a1) :: .ref (jD G o) :: rest)) :=
  jr_callZ B (jr_runV (o := o) (As := [.int (jI a1), .int (jI a2), .int (jI a3)]) (n := 3) C hl B (m_X1_hasSub B.2.2 k_o r_a1 r_a2 r_a3 h) (jE2 k_o) (by omega) rfl q1 q_301 q_302 q_303 q_3 ⟨by decide, by decide, by decide +kernel⟩ rfl ⟨rfl, rfl⟩ hR hcs rfl hW hdg) (fun r M' H1 locs1 hr hk B1 => by obtain ⟨rfl, hk⟩ := hk; exact kk r hr H1 locs1 hk B1)
def w_X1_hasPart (M : jM) (o : Int) (a1 : Int) (a2 : Int) (a3 : Int) (k : Int → Prop) : Prop := (if a3 = (-1) then (w_X1_hasValue M o a1 a2 (fun x1 => (k x1))) else (w_X1_hasSub M o a1 a2 a3 (fun x2 => (k x2))))
set_option maxHeartbeats 4000000 in
set_option maxRecDepth 100000 in
theorem m_X1_hasPart {l : Launch} {G : jG} {M : jM} {o a1 a2 a3 : Int} {k : Int → Prop} (o_M : jOK M) (k_o : jK o = 2) (r_a1 : jR a1) (r_a2 : jR a2) (r_a3 : jR a3) (h : w_X1_hasPart M o a1 a2 a3 k) : Met l yX1_hasPart (wsG yX1_hasPart cX1_hasPart 4 (some .boolean)) (rmm 3 66) (jPc G M [.ref (jD G o), .int (jI a1), .int (jI a2), .int (jI a3)]) (qZ G (fun r M' => M' = M ∧ k r)) 0 0 (gA G) := by
  refine jm_start RX1 rfl (by decide) (Nat.le_of_ble_eq_true rfl) o_M ?_
  intro p e s m args below meth c ls C hr hlocks hl B
  have hl : lv_has ls 4 [(0, .ref (jD G o)), (1, .int (jI a1)), (2, .int (jI a2)), (3, .int (jI a3))] := hl
  unfold w_X1_hasPart at h
  refine lv_iload_n C.1 C.2.1 dX1_hasPart_0 rfl (lv_at hl 3 rfl) ?_
  refine jr_iconst C dX1_hasPart_1 ?_
  refine jr_icmp_ne (tgt := 12) C r_a3 (jkc rfl) h dX1_hasPart_2 (by decide) (fun hc2 h => ?_) (fun hc2 h => ?_)
  · refine lv_aload_n C.1 C.2.1 dX1_hasPart_5 rfl (lv_at hl 0 rfl) ?_
    refine lv_iload_n C.1 C.2.1 dX1_hasPart_6 rfl (lv_at hl 1 rfl) ?_
    refine lv_iload_n C.1 C.2.1 dX1_hasPart_7 rfl (lv_at hl 2 rfl) ?_
    refine cl_X1_hasValue C hl.1 B q_304 ⟨Nat.le_of_ble_eq_true rfl, Nat.le_of_ble_eq_true rfl⟩ ⟨Nat.zero_le _, Nat.zero_le _⟩ (Nat.le_of_ble_eq_true rfl) k_o r_a1 r_a2 h dX1_hasPart_8 (fun x1 z_x1 _ _ h B => ?_)
    exact jr_zret C B hr hlocks z_x1 ⟨rfl, h⟩ dX1_hasPart_11
  · refine lv_aload_n C.1 C.2.1 dX1_hasPart_12 rfl (lv_at hl 0 rfl) ?_
    refine lv_iload_n C.1 C.2.1 dX1_hasPart_13 rfl (lv_at hl 1 rfl) ?_
    refine lv_iload_n C.1 C.2.1 dX1_hasPart_14 rfl (lv_at hl 2 rfl) ?_
    refine lv_iload_n C.1 C.2.1 dX1_hasPart_15 rfl (lv_at hl 3 rfl) ?_
    refine cl_X1_hasSub C hl.1 B q_525 ⟨Nat.le_of_ble_eq_true rfl, Nat.le_of_ble_eq_true rfl⟩ ⟨Nat.zero_le _, Nat.zero_le _⟩ (Nat.le_of_ble_eq_true rfl) k_o r_a1 r_a2 r_a3 h dX1_hasPart_16 (fun x2 z_x2 _ _ h B => ?_)
    exact jr_zret C B hr hlocks z_x2 ⟨rfl, h⟩ dX1_hasPart_19
theorem cl_X1_hasPart {p : Program} {l : Launch} {e : Env} {R : Room} {s : State} {m : MethodId} {args : Array Value} {below : List Frame} {meth : Method} {c : Code} {H : Heap} {locs : List Loc} {cells slots : Nat} {Q : State → Prop} {cc : ByteArray} {nL : Nat} {own : String} {G : jG} {H0 : Heap} {pc idx : Nat} {ls : Array Slot} {rest : List Value} {M : jM} {o a1 a2 a3 : Int} {k : Int → Prop} (C : Cx G p s args m c cc nL own) (hl : ls.size = nL) (B : Hp G M H0 H locs) (q1 : Cond.methodLink own idx yX1_hasPart ∈ tb) (hR : (rmm 3 66).frames + 1 ≤ R.frames ∧ 8 + (4 + 11) + (rmm 3 66).locals ≤ R.locals) (hcs : cells ≤ R.cells ∧ slots ≤ R.slots) (hW : (rest.map fun v => v.category).sum ≤ 8) (k_o : jK o = 2) (r_a1 : jR a1) (r_a2 : jR a2) (r_a3 : jR a3) (h : w_X1_hasPart M o a1 a2 a3 k) (hdg : decode cc pc = .ok (.invokevirtual idx, 3)) (kk : ∀ (r : Int), (r = 0 ∨ r = 1) → ∀ (H1 : Heap) (locs1 : List Loc), k r → Hp G M H0 H1 locs1 → W p l e R s m args below meth c H1 locs1 cells slots Q (F0 m (pc + 3) ls (.int (jI r) :: rest))) : W p l e R s m args below meth c H locs cells slots Q (F0 m pc ls (.int (jI a3) :: .int (jI a2) :: .int (jI a1) :: .ref (jD G o) :: rest)) :=
  jr_callZ B (jr_runV (o := o) (As := [.int (jI a1), .int (jI a2), .int (jI a3)]) (n := 3) C hl B (m_X1_hasPart B.2.2 k_o r_a1 r_a2 r_a3 h) (jE2 k_o) (by omega) rfl q1 q_522 q_523 q_524 q_3 ⟨by decide, by decide, by decide +kernel⟩ rfl ⟨rfl, rfl⟩ hR hcs rfl hW hdg) (fun r M' H1 locs1 hr hk B1 => by obtain ⟨rfl, hk⟩ := hk; exact kk r hr H1 locs1 hk B1)
def w_X1_hasRoomPlace (M : jM) (o : Int) (a1 : Int) (a2 : Int) (a3 : Int) (k : Int → Prop) : Prop := (if a3 = (-1) then (w_X6_isBelow a1 4 (fun x1 => (if x1 = 0 then (k 0) else (jB a1 4 ∧ (w_X6_isBelow a2 (jW ((M (o + 1) a1) + 1)) (fun x3 => (if x3 = 0 then (k 0) else (k 1)))))))) else (w_X1_hasValue M o a1 a2 (fun x4 => (if x4 = 0 then (k 0) else (w_X1_subCount M o a1 a2 (fun x5 => (w_X6_isBelow a3 (jW (x5 + 1)) (fun x6 => (if x6 = 0 then (k 0) else (k 1))))))))))
set_option maxHeartbeats 4000000 in
set_option maxRecDepth 100000 in
theorem m_X1_hasRoomPlace {l : Launch} {G : jG} {M : jM} {o a1 a2 a3 : Int} {k : Int → Prop} (o_M : jOK M) (k_o : jK o = 2) (r_a1 : jR a1) (r_a2 : jR a2) (r_a3 : jR a3) (h : w_X1_hasRoomPlace M o a1 a2 a3 k) : Met l yX1_hasRoomPlace (wsG yX1_hasRoomPlace cX1_hasRoomPlace 4 (some .boolean)) (rmm 2 43) (jPc G M [.ref (jD G o), .int (jI a1), .int (jI a2), .int (jI a3)]) (qZ G (fun r M' => M' = M ∧ k r)) 0 0 (gA G) := by
  refine jm_start RX1 rfl (by decide) (Nat.le_of_ble_eq_true rfl) o_M ?_
  intro p e s m args below meth c ls C hr hlocks hl B
  have hl : lv_has ls 4 [(0, .ref (jD G o)), (1, .int (jI a1)), (2, .int (jI a2)), (3, .int (jI a3))] := hl
  unfold w_X1_hasRoomPlace at h
  refine lv_iload_n C.1 C.2.1 dX1_hasRoomPlace_0 rfl (lv_at hl 3 rfl) ?_
  refine jr_iconst C dX1_hasRoomPlace_1 ?_
  refine jr_icmp_ne (tgt := 34) C r_a3 (jkc rfl) h dX1_hasRoomPlace_2 (by decide) (fun hc2 h => ?_) (fun hc2 h => ?_)
  · refine lv_iload_n C.1 C.2.1 dX1_hasRoomPlace_5 rfl (lv_at hl 1 rfl) ?_
    refine jr_iconst C dX1_hasRoomPlace_6 ?_
    refine cn_X6_isBelow C hl.1 B C.2.2.2.2.2.2.1 ⟨Nat.le_of_ble_eq_true rfl, Nat.le_of_ble_eq_true rfl⟩ ⟨Nat.zero_le _, Nat.zero_le _⟩ (Nat.le_of_ble_eq_true rfl) r_a1 (jkc rfl) h dX1_hasRoomPlace_7 (fun x1 z_x1 _ _ h B => ?_)
    refine jr_if_eq (tgt := 32) C (zR z_x1) h dX1_hasRoomPlace_10 (by decide) (fun hc10 h => ?_) (fun hc10 h => ?_)
    · refine jr_iconst C dX1_hasRoomPlace_32 ?_
      exact jr_zret C B hr hlocks (Or.inl rfl) ⟨rfl, h⟩ dX1_hasRoomPlace_33
    · refine lv_iload_n C.1 C.2.1 dX1_hasRoomPlace_13 rfl (lv_at hl 2 rfl) ?_
      refine lv_aload_n C.1 C.2.1 dX1_hasRoomPlace_14 rfl (lv_at hl 0 rfl) ?_
      refine gf_X1_19 C B k_o dX1_hasRoomPlace_15 ?_
      refine lv_iload_n C.1 C.2.1 dX1_hasRoomPlace_18 rfl (lv_at hl 1 rfl) ?_
      obtain ⟨g2, h⟩ := h
      refine jr_iald C B 4 (jk1 (ko_X1_2 k_o) rfl) (jk2 (ko_X1_2 k_o) rfl) r_a1 g2 dX1_hasRoomPlace_19 ?_
      refine jr_iconst C dX1_hasRoomPlace_20 ?_
      refine jr_iadd C dX1_hasRoomPlace_21 ?_
      refine cn_X6_isBelow C hl.1 B C.2.2.2.2.2.2.1 ⟨Nat.le_of_ble_eq_true rfl, Nat.le_of_ble_eq_true rfl⟩ ⟨Nat.zero_le _, Nat.zero_le _⟩ (Nat.le_of_ble_eq_true rfl) r_a2 (jW_R _) h dX1_hasRoomPlace_22 (fun x3 z_x3 _ _ h B => ?_)
      refine jr_if_eq (tgt := 32) C (zR z_x3) h dX1_hasRoomPlace_25 (by decide) (fun hc25 h => ?_) (fun hc25 h => ?_)
      · refine jr_iconst C dX1_hasRoomPlace_32 ?_
        exact jr_zret C B hr hlocks (Or.inl rfl) ⟨rfl, h⟩ dX1_hasRoomPlace_33
      · refine jr_iconst C dX1_hasRoomPlace_28 ?_
        refine lv_goto (tgt := 33) C.1 C.2.1 dX1_hasRoomPlace_29 (by decide) ?_
        exact jr_zret C B hr hlocks (Or.inr rfl) ⟨rfl, h⟩ dX1_hasRoomPlace_33
  · refine lv_aload_n C.1 C.2.1 dX1_hasRoomPlace_34 rfl (lv_at hl 0 rfl) ?_
    refine lv_iload_n C.1 C.2.1 dX1_hasRoomPlace_35 rfl (lv_at hl 1 rfl) ?_
    refine lv_iload_n C.1 C.2.1 dX1_hasRoomPlace_36 rfl (lv_at hl 2 rfl) ?_
    refine cl_X1_hasValue C hl.1 B q_304 ⟨Nat.le_of_ble_eq_true rfl, Nat.le_of_ble_eq_true rfl⟩ ⟨Nat.zero_le _, Nat.zero_le _⟩ (Nat.le_of_ble_eq_true rfl) k_o r_a1 r_a2 h dX1_hasRoomPlace_37 (fun x4 z_x4 _ _ h B => ?_)
    refine jr_if_eq (tgt := 62) C (zR z_x4) h dX1_hasRoomPlace_40 (by decide) (fun hc40 h => ?_) (fun hc40 h => ?_)
    · refine jr_iconst C dX1_hasRoomPlace_62 ?_
      exact jr_zret C B hr hlocks (Or.inl rfl) ⟨rfl, h⟩ dX1_hasRoomPlace_63
    · refine lv_iload_n C.1 C.2.1 dX1_hasRoomPlace_43 rfl (lv_at hl 3 rfl) ?_
      refine lv_aload_n C.1 C.2.1 dX1_hasRoomPlace_44 rfl (lv_at hl 0 rfl) ?_
      refine lv_iload_n C.1 C.2.1 dX1_hasRoomPlace_45 rfl (lv_at hl 1 rfl) ?_
      refine lv_iload_n C.1 C.2.1 dX1_hasRoomPlace_46 rfl (lv_at hl 2 rfl) ?_
      refine cl_X1_subCount C hl.1 B q_305 ⟨Nat.le_of_ble_eq_true rfl, Nat.le_of_ble_eq_true rfl⟩ ⟨Nat.zero_le _, Nat.zero_le _⟩ (Nat.le_of_ble_eq_true rfl) k_o r_a1 r_a2 h dX1_hasRoomPlace_47 (fun x5 r_x5 _ _ h B => ?_)
      refine jr_iconst C dX1_hasRoomPlace_50 ?_
      refine jr_iadd C dX1_hasRoomPlace_51 ?_
      refine cn_X6_isBelow C hl.1 B C.2.2.2.2.2.2.1 ⟨Nat.le_of_ble_eq_true rfl, Nat.le_of_ble_eq_true rfl⟩ ⟨Nat.zero_le _, Nat.zero_le _⟩ (Nat.le_of_ble_eq_true rfl) r_a3 (jW_R _) h dX1_hasRoomPlace_52 (fun x6 z_x6 _ _ h B => ?_)
      refine jr_if_eq (tgt := 62) C (zR z_x6) h dX1_hasRoomPlace_55 (by decide) (fun hc55 h => ?_) (fun hc55 h => ?_)
      · refine jr_iconst C dX1_hasRoomPlace_62 ?_
        exact jr_zret C B hr hlocks (Or.inl rfl) ⟨rfl, h⟩ dX1_hasRoomPlace_63
      · refine jr_iconst C dX1_hasRoomPlace_58 ?_
        refine lv_goto (tgt := 63) C.1 C.2.1 dX1_hasRoomPlace_59 (by decide) ?_
        exact jr_zret C B hr hlocks (Or.inr rfl) ⟨rfl, h⟩ dX1_hasRoomPlace_63
theorem cl_X1_hasRoomPlace {p : Program} {l : Launch} {e : Env} {R : Room} {s : State} {m : MethodId} {args : Array Value} {below : List Frame} {meth : Method} {c : Code} {H : Heap} {locs : List Loc} {cells slots : Nat} {Q : State → Prop} {cc : ByteArray} {nL : Nat} {own : String} {G : jG} {H0 : Heap} {pc idx : Nat} {ls : Array Slot} {rest : List Value} {M : jM} {o a1 a2 a3 : Int} {k : Int → Prop} (C : Cx G p s args m c cc nL own) (hl : ls.size = nL) (B : Hp G M H0 H locs) (q1 : Cond.methodLink own idx yX1_hasRoomPlace ∈ tb) (hR : (rmm 2 43).frames + 1 ≤ R.frames ∧ 8 + (4 + 11) + (rmm 2 43).locals ≤ R.locals) (hcs : cells ≤ R.cells ∧ slots ≤ R.slots) (hW : (rest.map fun v => v.category).sum ≤ 8) (k_o : jK o = 2) (r_a1 : jR a1) (r_a2 : jR a2) (r_a3 : jR a3) (h : w_X1_hasRoomPlace M o a1 a2 a3 k) (hdg : decode cc pc = .ok (.invokevirtual idx, 3)) (kk : ∀ (r : Int), (r = 0 ∨ r = 1) → ∀ (H1 : Heap) (locs1 : List Loc), k r → Hp G M H0 H1 locs1 → W p l e R s m args below meth c H1 locs1 cells slots Q (F0 m (pc + 3) ls (.int (jI r) :: rest))) : W p l e R s m args below meth c H locs cells slots Q (F0 m pc ls (.int (jI a3) :: .int (jI a2) :: .int (jI a1) :: .ref (jD G o) :: rest)) :=
  jr_callZ B (jr_runV (o := o) (As := [.int (jI a1), .int (jI a2), .int (jI a3)]) (n := 3) C hl B (m_X1_hasRoomPlace B.2.2 k_o r_a1 r_a2 r_a3 h) (jE2 k_o) (by omega) rfl q1 q_479 q_480 q_481 q_3 ⟨by decide, by decide, by decide +kernel⟩ rfl ⟨rfl, rfl⟩ hR hcs rfl hW hdg) (fun r M' H1 locs1 hr hk B1 => by obtain ⟨rfl, hk⟩ := hk; exact kk r hr H1 locs1 hk B1)
def w_X1_valueCount (M : jM) (o : Int) (a1 : Int) (k : Int → Prop) : Prop := (jB a1 4 ∧ (k (M (o + 1) a1)))
set_option maxHeartbeats 4000000 in
set_option maxRecDepth 100000 in
theorem m_X1_valueCount {l : Launch} {G : jG} {M : jM} {o a1 : Int} {k : Int → Prop} (o_M : jOK M) (k_o : jK o = 2) (r_a1 : jR a1) (h : w_X1_valueCount M o a1 k) : Met l yX1_valueCount (wsG yX1_valueCount cX1_valueCount 2 (some .int)) (rmm 0 0) (jPc G M [.ref (jD G o), .int (jI a1)]) (qI G (fun r M' => M' = M ∧ k r)) 0 0 (gA G) := by
  refine jm_start RX1 rfl (by decide) (Nat.le_of_ble_eq_true rfl) o_M ?_
  intro p e s m args below meth c ls C hr hlocks hl B
  have hl : lv_has ls 2 [(0, .ref (jD G o)), (1, .int (jI a1))] := hl
  unfold w_X1_valueCount at h
  refine lv_aload_n C.1 C.2.1 dX1_valueCount_0 rfl (lv_at hl 0 rfl) ?_
  refine gf_X1_19 C B k_o dX1_valueCount_1 ?_
  refine lv_iload_n C.1 C.2.1 dX1_valueCount_4 rfl (lv_at hl 1 rfl) ?_
  obtain ⟨g1, h⟩ := h
  refine jr_iald C B 4 (jk1 (ko_X1_2 k_o) rfl) (jk2 (ko_X1_2 k_o) rfl) r_a1 g1 dX1_valueCount_5 ?_
  exact jr_iret C B hr hlocks (o_M (o + 1) a1).1 ⟨rfl, h⟩ dX1_valueCount_6
theorem cl_X1_valueCount {p : Program} {l : Launch} {e : Env} {R : Room} {s : State} {m : MethodId} {args : Array Value} {below : List Frame} {meth : Method} {c : Code} {H : Heap} {locs : List Loc} {cells slots : Nat} {Q : State → Prop} {cc : ByteArray} {nL : Nat} {own : String} {G : jG} {H0 : Heap} {pc idx : Nat} {ls : Array Slot} {rest : List Value} {M : jM} {o a1 : Int} {k : Int → Prop} (C : Cx G p s args m c cc nL own) (hl : ls.size = nL) (B : Hp G M H0 H locs) (q1 : Cond.methodLink own idx yX1_valueCount ∈ tb) (hR : (rmm 0 0).frames + 1 ≤ R.frames ∧ 8 + (2 + 11) + (rmm 0 0).locals ≤ R.locals) (hcs : cells ≤ R.cells ∧ slots ≤ R.slots) (hW : (rest.map fun v => v.category).sum ≤ 8) (k_o : jK o = 2) (r_a1 : jR a1) (h : w_X1_valueCount M o a1 k) (hdg : decode cc pc = .ok (.invokevirtual idx, 3)) (kk : ∀ (r : Int), jR r → ∀ (H1 : Heap) (locs1 : List Loc), k r → Hp G M H0 H1 locs1 → W p l e R s m args below meth c H1 locs1 cells slots Q (F0 m (pc + 3) ls (.int (jI r) :: rest))) : W p l e R s m args below meth c H locs cells slots Q (F0 m pc ls (.int (jI a1) :: .ref (jD G o) :: rest)) :=
  jr_callI B (jr_runV (o := o) (As := [.int (jI a1)]) (n := 1) C hl B (m_X1_valueCount B.2.2 k_o r_a1 h) (jE2 k_o) (by omega) rfl q1 q_280 q_281 q_282 q_3 ⟨by decide, by decide, by decide +kernel⟩ rfl ⟨rfl, rfl⟩ hR hcs rfl hW hdg) (fun r M' H1 locs1 hr hk B1 => by obtain ⟨rfl, hk⟩ := hk; exact kk r hr H1 locs1 hk B1)
def lp_X1_allSubCount_11 (o : Int) (x2 : Int) (M : jM) (kx11 : Int → Prop) : Nat → Int → Int → Prop
  | 0, _, _ => False
  | n + 1, x4, x5 => (jB x2 4 ∧ (if x5 < (M (o + 1) x2) then (w_X1_subCount M o x2 x5 (fun x9 => (jL (jW (x4 + x9)) (fun x10 => (jL (jW (x5 + 1)) (fun x11 => (lp_X1_allSubCount_11 o x2 M kx11 n x10 x11))))))) else (kx11 x4)))
def lp_X1_allSubCount_4 (N : Nat) (o : Int) (M : jM) (kx4 : Int → Prop) : Nat → Int → Int → Prop
  | 0, _, _ => False
  | n + 1, x1, x2 => (if x2 < 4 then (lp_X1_allSubCount_11 o x2 M (fun (x6 : Int) => (jL (jW (x2 + 1)) (fun x7 => (lp_X1_allSubCount_4 N o M kx4 n x6 x7)))) N x1 0) else (kx4 x1))
def w_X1_allSubCount (N : Nat) (M : jM) (o : Int) (k : Int → Prop) : Prop := (lp_X1_allSubCount_4 N o M (fun (x3 : Int) => (k x3)) N 0 0)
set_option maxHeartbeats 4000000 in
set_option maxRecDepth 100000 in
theorem m_X1_allSubCount {l : Launch} {G : jG} {N : Nat} {M : jM} {o : Int} {k : Int → Prop} (o_M : jOK M) (k_o : jK o = 2) (h : w_X1_allSubCount N M o k) : Met l yX1_allSubCount (wsG yX1_allSubCount cX1_allSubCount 4 (some .int)) (rmm 1 22) (jPc G M [.ref (jD G o)]) (qI G (fun r M' => M' = M ∧ k r)) 0 0 (gA G) := by
  refine jm_start RX1 rfl (by decide) (Nat.le_of_ble_eq_true rfl) o_M ?_
  intro p e s m args below meth c ls C hr hlocks hl B
  have hl : lv_has ls 4 [(0, .ref (jD G o))] := hl
  unfold w_X1_allSubCount at h
  refine jr_iconst C dX1_allSubCount_0 ?_
  refine lv_istore_n (lv' := [(1, .int (jI 0)), (0, .ref (jD G o))]) C.1 C.2.1 dX1_allSubCount_1 rfl hl (by decide) rfl (fun ls hl => ?_)
  refine jr_iconst C dX1_allSubCount_2 ?_
  refine lv_istore_n (lv' := [(2, .int (jI 0)), (1, .int (jI 0)), (0, .ref (jD G o))]) C.1 C.2.1 dX1_allSubCount_3 rfl hl (by decide) rfl (fun ls hl => ?_)
  obtain ⟨kx4, hkx4, h⟩ : ∃ kx4 : Int → Prop, (∀ (x3 : Int) (H : Heap) (locs : List Loc) (ls : Array Slot), kx4 x3 → jR x3 → Hp G M s.heap H locs → lv_has ls 4 [(1, .int (jI x3))] → W p l e (rmm 1 22) s m args below meth c H locs 0 0 (MQ below (qI G (fun r M' => M' = M ∧ k r)) args s 0 0 (gA G)) (F0 m 42 ls [])) ∧ lp_X1_allSubCount_4 N o M kx4 N 0 0 := by
    refine ⟨_, ?_, h⟩
    intro x3 H locs ls h r_x3 B hl
    refine lv_iload_n C.1 C.2.1 dX1_allSubCount_42 rfl (lv_at hl 0 rfl) ?_
    exact jr_iret C B hr hlocks r_x3 ⟨rfl, h⟩ dX1_allSubCount_43
  have hL4 : ∀ (n : Nat) (x1 : Int) (x2 : Int) (H : Heap) (locs : List Loc) (ls : Array Slot), lp_X1_allSubCount_4 N o M kx4 n x1 x2 → jR x1 → jR x2 → Hp G M s.heap H locs → lv_has ls 4 [(1, .int (jI x1)), (2, .int (jI x2)), (0, .ref (jD G o))] → W p l e (rmm 1 22) s m args below meth c H locs 0 0 (MQ below (qI G (fun r M' => M' = M ∧ k r)) args s 0 0 (gA G)) (F0 m 4 ls []) := by
    intro n
    induction n with
    | zero => intro x1 x2 H locs ls h; exact (show False from h).elim
    | succ n ih4 =>
      intro x1 x2 H locs ls h r_x1 r_x2 B hl
      rw [lp_X1_allSubCount_4] at h
      refine lv_iload_n C.1 C.2.1 dX1_allSubCount_4 rfl (lv_at hl 1 rfl) ?_
      refine jr_iconst C dX1_allSubCount_5 ?_
      refine jr_icmp_ge (tgt := 42) C r_x2 (jkc rfl) h dX1_allSubCount_6 (by decide) (fun hc6 h => ?_) (fun hc6 h => ?_)
      · refine jr_iconst C dX1_allSubCount_9 ?_
        refine lv_istore_n (lv' := [(3, .int (jI 0)), (1, .int (jI x1)), (2, .int (jI x2)), (0, .ref (jD G o))]) C.1 C.2.1 dX1_allSubCount_10 rfl hl (by decide) rfl (fun ls hl => ?_)
        obtain ⟨kx11, hkx11, h⟩ : ∃ kx11 : Int → Prop, (∀ (x6 : Int) (H : Heap) (locs : List Loc) (ls : Array Slot), kx11 x6 → jR x6 → Hp G M s.heap H locs → lv_has ls 4 [(1, .int (jI x6)), (2, .int (jI x2)), (0, .ref (jD G o))] → W p l e (rmm 1 22) s m args below meth c H locs 0 0 (MQ below (qI G (fun r M' => M' = M ∧ k r)) args s 0 0 (gA G)) (F0 m 36 ls [])) ∧ lp_X1_allSubCount_11 o x2 M kx11 N x1 0 := by
          refine ⟨_, ?_, h⟩
          intro x6 H locs ls h r_x6 B hl
          refine jr_iinc (k := 1) (lv' := fun x7 => [(2, .int (jI x7)), (1, .int (jI x6)), (0, .ref (jD G o))]) C h hl rfl (by decide) (fun _ => rfl) dX1_allSubCount_36 (fun x7 h r_x7 ls hl => ?_)
          refine lv_goto (tgt := 4) C.1 C.2.1 dX1_allSubCount_39 (by decide) ?_
          exact ih4 _ _ _ _ _ h r_x6 r_x7 B (lv_sub hl [1, 0, 2] rfl)
        have hL11 : ∀ (n : Nat) (x4 : Int) (x5 : Int) (H : Heap) (locs : List Loc) (ls : Array Slot), lp_X1_allSubCount_11 o x2 M kx11 n x4 x5 → jR x4 → jR x5 → Hp G M s.heap H locs → lv_has ls 4 [(1, .int (jI x4)), (3, .int (jI x5)), (2, .int (jI x2)), (0, .ref (jD G o))] → W p l e (rmm 1 22) s m args below meth c H locs 0 0 (MQ below (qI G (fun r M' => M' = M ∧ k r)) args s 0 0 (gA G)) (F0 m 11 ls []) := by
          intro n
          induction n with
          | zero => intro x4 x5 H locs ls h; exact (show False from h).elim
          | succ n ih11 =>
            intro x4 x5 H locs ls h r_x4 r_x5 B hl
            rw [lp_X1_allSubCount_11] at h
            refine lv_iload_n C.1 C.2.1 dX1_allSubCount_11 rfl (lv_at hl 1 rfl) ?_
            refine lv_aload_n C.1 C.2.1 dX1_allSubCount_12 rfl (lv_at hl 3 rfl) ?_
            refine gf_X1_19 C B k_o dX1_allSubCount_13 ?_
            refine lv_iload_n C.1 C.2.1 dX1_allSubCount_16 rfl (lv_at hl 2 rfl) ?_
            obtain ⟨g8, h⟩ := h
            refine jr_iald C B 4 (jk1 (ko_X1_2 k_o) rfl) (jk2 (ko_X1_2 k_o) rfl) r_x2 g8 dX1_allSubCount_17 ?_
            refine jr_icmp_ge (tgt := 36) C r_x5 (o_M (o + 1) x2).1 h dX1_allSubCount_18 (by decide) (fun hc18 h => ?_) (fun hc18 h => ?_)
            · refine lv_iload_n C.1 C.2.1 dX1_allSubCount_21 rfl (lv_at hl 0 rfl) ?_
              refine lv_aload_n C.1 C.2.1 dX1_allSubCount_22 rfl (lv_at hl 3 rfl) ?_
              refine lv_iload_n C.1 C.2.1 dX1_allSubCount_23 rfl (lv_at hl 2 rfl) ?_
              refine lv_iload_n C.1 C.2.1 dX1_allSubCount_24 rfl (lv_at hl 1 rfl) ?_
              refine cl_X1_subCount C hl.1 B q_305 ⟨Nat.le_of_ble_eq_true rfl, Nat.le_of_ble_eq_true rfl⟩ ⟨Nat.zero_le _, Nat.zero_le _⟩ (Nat.le_of_ble_eq_true rfl) k_o r_x2 r_x5 h dX1_allSubCount_25 (fun x9 r_x9 _ _ h B => ?_)
              refine jr_iadd C dX1_allSubCount_28 ?_
              refine jr_nm h (jW_R _) (fun x10 h r_x10 => ?_)
              refine lv_istore_n (lv' := [(1, .int (jI x10)), (3, .int (jI x5)), (2, .int (jI x2)), (0, .ref (jD G o))]) C.1 C.2.1 dX1_allSubCount_29 rfl hl (by decide) rfl (fun ls hl => ?_)
              refine jr_iinc (k := 1) (lv' := fun x11 => [(3, .int (jI x11)), (1, .int (jI x10)), (2, .int (jI x2)), (0, .ref (jD G o))]) C h hl rfl (by decide) (fun _ => rfl) dX1_allSubCount_30 (fun x11 h r_x11 ls hl => ?_)
              refine lv_goto (tgt := 11) C.1 C.2.1 dX1_allSubCount_33 (by decide) ?_
              exact ih11 _ _ _ _ _ h r_x10 r_x11 B (lv_sub hl [1, 0, 2, 3] rfl)
            · exact hkx11 _ _ _ _ h r_x4 B (lv_sub hl [0, 2, 3] rfl)
        exact hL11 N _ _ _ _ _ h r_x1 (jkc rfl) B (lv_sub hl [1, 0, 2, 3] rfl)
      · exact hkx4 _ _ _ _ h r_x1 B (lv_sub hl [0] rfl)
  exact hL4 N _ _ _ _ _ h (jkc rfl) (jkc rfl) B (lv_sub hl [1, 0, 2] rfl)
theorem cl_X1_allSubCount {p : Program} {l : Launch} {e : Env} {R : Room} {s : State} {m : MethodId} {args : Array Value} {below : List Frame} {meth : Method} {c : Code} {H : Heap} {locs : List Loc} {cells slots : Nat} {Q : State → Prop} {cc : ByteArray} {nL : Nat} {own : String} {G : jG} {H0 : Heap} {pc idx : Nat} {ls : Array Slot} {rest : List Value} {N : Nat} {M : jM} {o : Int} {k : Int → Prop} (C : Cx G p s args m c cc nL own) (hl : ls.size = nL) (B : Hp G M H0 H locs) (q1 : Cond.methodLink own idx yX1_allSubCount ∈ tb) (hR : (rmm 1 22).frames + 1 ≤ R.frames ∧ 8 + (4 + 11) + (rmm 1 22).locals ≤ R.locals) (hcs : cells ≤ R.cells ∧ slots ≤ R.slots) (hW : (rest.map fun v => v.category).sum ≤ 8) (k_o : jK o = 2) (h : w_X1_allSubCount N M o k) (hdg : decode cc pc = .ok (.invokevirtual idx, 3)) (kk : ∀ (r : Int), jR r → ∀ (H1 : Heap) (locs1 : List Loc), k r → Hp G M H0 H1 locs1 → W p l e R s m args below meth c H1 locs1 cells slots Q (F0 m (pc + 3) ls (.int (jI r) :: rest))) : W p l e R s m args below meth c H locs cells slots Q (F0 m pc ls (.ref (jD G o) :: rest)) :=
  jr_callI B (jr_runV (o := o) (As := []) (n := 0) C hl B (m_X1_allSubCount B.2.2 k_o h) (jE2 k_o) (by omega) rfl q1 q_629 q_630 q_631 q_3 ⟨by decide, by decide, by decide +kernel⟩ rfl ⟨rfl, rfl⟩ hR hcs rfl hW hdg) (fun r M' H1 locs1 hr hk B1 => by obtain ⟨rfl, hk⟩ := hk; exact kk r hr H1 locs1 hk B1)
def w_X1_numberOf (M : jM) (o : Int) (a1 : Int) (a2 : Int) (a3 : Int) (k : Int → Prop) : Prop := (jB (jW ((jW ((jW (a1 * 20)) + (jW (a2 * 4)))) + a3)) 80 ∧ (k (M (o + 3) (jW ((jW ((jW (a1 * 20)) + (jW (a2 * 4)))) + a3)))))
set_option maxHeartbeats 4000000 in
set_option maxRecDepth 100000 in
theorem m_X1_numberOf {l : Launch} {G : jG} {M : jM} {o a1 a2 a3 : Int} {k : Int → Prop} (o_M : jOK M) (k_o : jK o = 2) (r_a1 : jR a1) (r_a2 : jR a2) (r_a3 : jR a3) (h : w_X1_numberOf M o a1 a2 a3 k) : Met l yX1_numberOf (wsG yX1_numberOf cX1_numberOf 4 (some .int)) (rmm 0 0) (jPc G M [.ref (jD G o), .int (jI a1), .int (jI a2), .int (jI a3)]) (qI G (fun r M' => M' = M ∧ k r)) 0 0 (gA G) := by
  refine jm_start RX1 rfl (by decide) (Nat.le_of_ble_eq_true rfl) o_M ?_
  intro p e s m args below meth c ls C hr hlocks hl B
  have hl : lv_has ls 4 [(0, .ref (jD G o)), (1, .int (jI a1)), (2, .int (jI a2)), (3, .int (jI a3))] := hl
  unfold w_X1_numberOf at h
  refine lv_aload_n C.1 C.2.1 dX1_numberOf_0 rfl (lv_at hl 0 rfl) ?_
  refine gf_X1_26 C B k_o dX1_numberOf_1 ?_
  refine lv_iload_n C.1 C.2.1 dX1_numberOf_4 rfl (lv_at hl 1 rfl) ?_
  refine jr_bipush C dX1_numberOf_5 (by decide) ?_
  refine jr_imul C dX1_numberOf_7 ?_
  refine lv_iload_n C.1 C.2.1 dX1_numberOf_8 rfl (lv_at hl 2 rfl) ?_
  refine jr_iconst C dX1_numberOf_9 ?_
  refine jr_imul C dX1_numberOf_10 ?_
  refine jr_iadd C dX1_numberOf_11 ?_
  refine lv_iload_n C.1 C.2.1 dX1_numberOf_12 rfl (lv_at hl 3 rfl) ?_
  refine jr_iadd C dX1_numberOf_13 ?_
  obtain ⟨g1, h⟩ := h
  refine jr_iald C B 80 (jk1 (ko_X1_4 k_o) rfl) (jk2 (ko_X1_4 k_o) rfl) (jW_R _) g1 dX1_numberOf_14 ?_
  exact jr_iret C B hr hlocks (o_M (o + 3) (jW ((jW ((jW (a1 * 20)) + (jW (a2 * 4)))) + a3))).1 ⟨rfl, h⟩ dX1_numberOf_15
theorem cl_X1_numberOf {p : Program} {l : Launch} {e : Env} {R : Room} {s : State} {m : MethodId} {args : Array Value} {below : List Frame} {meth : Method} {c : Code} {H : Heap} {locs : List Loc} {cells slots : Nat} {Q : State → Prop} {cc : ByteArray} {nL : Nat} {own : String} {G : jG} {H0 : Heap} {pc idx : Nat} {ls : Array Slot} {rest : List Value} {M : jM} {o a1 a2 a3 : Int} {k : Int → Prop} (C : Cx G p s args m c cc nL own) (hl : ls.size = nL) (B : Hp G M H0 H locs) (q1 : Cond.methodLink own idx yX1_numberOf ∈ tb) (hR : (rmm 0 0).frames + 1 ≤ R.frames ∧ 8 + (4 + 11) + (rmm 0 0).locals ≤ R.locals) (hcs : cells ≤ R.cells ∧ slots ≤ R.slots) (hW : (rest.map fun v => v.category).sum ≤ 8) (k_o : jK o = 2) (r_a1 : jR a1) (r_a2 : jR a2) (r_a3 : jR a3) (h : w_X1_numberOf M o a1 a2 a3 k) (hdg : decode cc pc = .ok (.invokevirtual idx, 3)) (kk : ∀ (r : Int), jR r → ∀ (H1 : Heap) (locs1 : List Loc), k r → Hp G M H0 H1 locs1 → W p l e R s m args below meth c H1 locs1 cells slots Q (F0 m (pc + 3) ls (.int (jI r) :: rest))) : W p l e R s m args below meth c H locs cells slots Q (F0 m pc ls (.int (jI a3) :: .int (jI a2) :: .int (jI a1) :: .ref (jD G o) :: rest)) :=
  jr_callI B (jr_runV (o := o) (As := [.int (jI a1), .int (jI a2), .int (jI a3)]) (n := 3) C hl B (m_X1_numberOf B.2.2 k_o r_a1 r_a2 r_a3 h) (jE2 k_o) (by omega) rfl q1 q_307 q_308 q_309 q_3 ⟨by decide, by decide, by decide +kernel⟩ rfl ⟨rfl, rfl⟩ hR hcs rfl hW hdg) (fun r M' H1 locs1 hr hk B1 => by obtain ⟨rfl, hk⟩ := hk; exact kk r hr H1 locs1 hk B1)
def w_X1_setNumber (M : jM) (o : Int) (a1 : Int) (a2 : Int) (a3 : Int) (a4 : Int) (k : jM → Prop) : Prop := (jB (jW ((jW ((jW (a1 * 20)) + (jW (a2 * 4)))) + a3)) 80 ∧ jL (jU M (o + 3) (jW ((jW ((jW (a1 * 20)) + (jW (a2 * 4)))) + a3)) a4) (fun M1 => (k M1)))
set_option maxHeartbeats 4000000 in
set_option maxRecDepth 100000 in
theorem m_X1_setNumber {l : Launch} {G : jG} {M : jM} {o a1 a2 a3 a4 : Int} {k : jM → Prop} (o_M : jOK M) (k_o : jK o = 2) (r_a1 : jR a1) (r_a2 : jR a2) (r_a3 : jR a3) (r_a4 : jR a4) (h : w_X1_setNumber M o a1 a2 a3 a4 k) : Met l yX1_setNumber (wsG yX1_setNumber cX1_setNumber 5 none) (rmm 0 0) (jPc G M [.ref (jD G o), .int (jI a1), .int (jI a2), .int (jI a3), .int (jI a4)]) (qV G k) 0 0 (gA G) := by
  refine jm_start RX1 rfl (by decide) (Nat.le_of_ble_eq_true rfl) o_M ?_
  intro p e s m args below meth c ls C hr hlocks hl B
  have hl : lv_has ls 5 [(0, .ref (jD G o)), (1, .int (jI a1)), (2, .int (jI a2)), (3, .int (jI a3)), (4, .int (jI a4))] := hl
  unfold w_X1_setNumber at h
  refine lv_aload_n C.1 C.2.1 dX1_setNumber_0 rfl (lv_at hl 0 rfl) ?_
  refine gf_X1_26 C B k_o dX1_setNumber_1 ?_
  refine lv_iload_n C.1 C.2.1 dX1_setNumber_4 rfl (lv_at hl 1 rfl) ?_
  refine jr_bipush C dX1_setNumber_5 (by decide) ?_
  refine jr_imul C dX1_setNumber_7 ?_
  refine lv_iload_n C.1 C.2.1 dX1_setNumber_8 rfl (lv_at hl 2 rfl) ?_
  refine jr_iconst C dX1_setNumber_9 ?_
  refine jr_imul C dX1_setNumber_10 ?_
  refine jr_iadd C dX1_setNumber_11 ?_
  refine lv_iload_n C.1 C.2.1 dX1_setNumber_12 rfl (lv_at hl 3 rfl) ?_
  refine jr_iadd C dX1_setNumber_13 ?_
  refine lv_iload C.1 C.2.1 dX1_setNumber_14 (lv_at hl 4 rfl) ?_
  refine jr_iast C B 80 (jk1 (ko_X1_4 k_o) rfl) (jk2 (ko_X1_4 k_o) rfl) (jW_R _) r_a4 h dX1_setNumber_16 (fun M1 _ _ h B => ?_)
  have o_M1 := B.2.2
  exact jr_vret C B hr hlocks h dX1_setNumber_17
theorem cl_X1_setNumber {p : Program} {l : Launch} {e : Env} {R : Room} {s : State} {m : MethodId} {args : Array Value} {below : List Frame} {meth : Method} {c : Code} {H : Heap} {locs : List Loc} {cells slots : Nat} {Q : State → Prop} {cc : ByteArray} {nL : Nat} {own : String} {G : jG} {H0 : Heap} {pc idx : Nat} {ls : Array Slot} {rest : List Value} {M : jM} {o a1 a2 a3 a4 : Int} {k : jM → Prop} (C : Cx G p s args m c cc nL own) (hl : ls.size = nL) (B : Hp G M H0 H locs) (q1 : Cond.methodLink own idx yX1_setNumber ∈ tb) (hR : (rmm 0 0).frames + 1 ≤ R.frames ∧ 8 + (5 + 11) + (rmm 0 0).locals ≤ R.locals) (hcs : cells ≤ R.cells ∧ slots ≤ R.slots) (hW : (rest.map fun v => v.category).sum ≤ 8) (k_o : jK o = 2) (r_a1 : jR a1) (r_a2 : jR a2) (r_a3 : jR a3) (r_a4 : jR a4) (h : w_X1_setNumber M o a1 a2 a3 a4 k) (hdg : decode cc pc = .ok (.invokevirtual idx, 3)) (kk : ∀ (M' : jM) (H1 : Heap) (locs1 : List Loc), k M' → Hp G M' H0 H1 locs1 → W p l e R s m args below meth c H1 locs1 cells slots Q (F0 m (pc + 3) ls rest)) : W p l e R s m args below meth c H locs cells slots Q (F0 m pc ls (.int (jI a4) :: .int (jI a3) :: .int (jI a2) :: .int (jI a1) :: .ref (jD G o) :: rest)) :=
  jr_callV B (jr_runV (o := o) (As := [.int (jI a1), .int (jI a2), .int (jI a3), .int (jI a4)]) (n := 4) C hl B (m_X1_setNumber B.2.2 k_o r_a1 r_a2 r_a3 r_a4 h) (jE2 k_o) (by omega) rfl q1 q_500 q_501 q_502 q_3 ⟨by decide, by decide, by decide +kernel⟩ rfl ⟨rfl, rfl⟩ hR hcs rfl hW hdg) (fun M' H1 locs1 hk B1 => kk M' H1 locs1 hk B1)
def w_X1_moveValue (M : jM) (o : Int) (a1 : Int) (a2 : Int) (a3 : Int) (k : jM → Prop) : Prop := (jL (jW ((jW (a1 * 5)) + a2)) (fun x1 => (jL (jW ((jW (a1 * 5)) + a3)) (fun x2 => (jB x1 20 ∧ (jB x2 20 ∧ jL (jU M (o + 2) x2 (M (o + 2) x1)) (fun M4 => (jBc (jW (x1 * 4)) (jW (x2 * 4)) 4 80 80 ∧ jL (jC M4 (o + 3) (jW (x1 * 4)) (o + 3) (jW (x2 * 4)) 4) (fun M5 => (k M5))))))))))
set_option maxHeartbeats 4000000 in
set_option maxRecDepth 100000 in
theorem m_X1_moveValue {l : Launch} {G : jG} {M : jM} {o a1 a2 a3 : Int} {k : jM → Prop} (o_M : jOK M) (k_o : jK o = 2) (r_a1 : jR a1) (r_a2 : jR a2) (r_a3 : jR a3) (h : w_X1_moveValue M o a1 a2 a3 k) : Met l yX1_moveValue (wsG yX1_moveValue cX1_moveValue 6 none) (rmm 1 40) (jPc G M [.ref (jD G o), .int (jI a1), .int (jI a2), .int (jI a3)]) (qV G k) 0 0 (gA G) := by
  refine jm_start RX1 rfl (by decide) (Nat.le_of_ble_eq_true rfl) o_M ?_
  intro p e s m args below meth c ls C hr hlocks hl B
  have hl : lv_has ls 6 [(0, .ref (jD G o)), (1, .int (jI a1)), (2, .int (jI a2)), (3, .int (jI a3))] := hl
  unfold w_X1_moveValue at h
  refine lv_iload_n C.1 C.2.1 dX1_moveValue_0 rfl (lv_at hl 1 rfl) ?_
  refine jr_iconst C dX1_moveValue_1 ?_
  refine jr_imul C dX1_moveValue_2 ?_
  refine lv_iload_n C.1 C.2.1 dX1_moveValue_3 rfl (lv_at hl 2 rfl) ?_
  refine jr_iadd C dX1_moveValue_4 ?_
  refine jr_nm h (jW_R _) (fun x1 h r_x1 => ?_)
  refine lv_istore (lv' := [(4, .int (jI x1)), (0, .ref (jD G o)), (1, .int (jI a1)), (2, .int (jI a2)), (3, .int (jI a3))]) C.1 C.2.1 dX1_moveValue_5 hl (by decide) rfl (fun ls hl => ?_)
  refine lv_iload_n C.1 C.2.1 dX1_moveValue_7 rfl (lv_at hl 2 rfl) ?_
  refine jr_iconst C dX1_moveValue_8 ?_
  refine jr_imul C dX1_moveValue_9 ?_
  refine lv_iload_n C.1 C.2.1 dX1_moveValue_10 rfl (lv_at hl 4 rfl) ?_
  refine jr_iadd C dX1_moveValue_11 ?_
  refine jr_nm h (jW_R _) (fun x2 h r_x2 => ?_)
  refine lv_istore (lv' := [(5, .int (jI x2)), (4, .int (jI x1)), (0, .ref (jD G o)), (1, .int (jI a1)), (2, .int (jI a2)), (3, .int (jI a3))]) C.1 C.2.1 dX1_moveValue_12 hl (by decide) rfl (fun ls hl => ?_)
  refine lv_aload_n C.1 C.2.1 dX1_moveValue_14 rfl (lv_at hl 2 rfl) ?_
  refine gf_X1_23 C B k_o dX1_moveValue_15 ?_
  refine lv_iload C.1 C.2.1 dX1_moveValue_18 (lv_at hl 0 rfl) ?_
  refine lv_aload_n C.1 C.2.1 dX1_moveValue_20 rfl (lv_at hl 2 rfl) ?_
  refine gf_X1_23 C B k_o dX1_moveValue_21 ?_
  refine lv_iload C.1 C.2.1 dX1_moveValue_24 (lv_at hl 1 rfl) ?_
  obtain ⟨g3, h⟩ := h
  refine jr_iald C B 20 (jk1 (ko_X1_3 k_o) rfl) (jk2 (ko_X1_3 k_o) rfl) r_x1 g3 dX1_moveValue_26 ?_
  refine jr_iast C B 20 (jk1 (ko_X1_3 k_o) rfl) (jk2 (ko_X1_3 k_o) rfl) r_x2 (o_M (o + 2) x1).1 h dX1_moveValue_27 (fun M4 _ _ h B => ?_)
  have o_M4 := B.2.2
  refine lv_aload_n C.1 C.2.1 dX1_moveValue_28 rfl (lv_at hl 2 rfl) ?_
  refine gf_X1_26 C B k_o dX1_moveValue_29 ?_
  refine lv_iload C.1 C.2.1 dX1_moveValue_32 (lv_at hl 1 rfl) ?_
  refine jr_iconst C dX1_moveValue_34 ?_
  refine jr_imul C dX1_moveValue_35 ?_
  refine lv_aload_n C.1 C.2.1 dX1_moveValue_36 rfl (lv_at hl 2 rfl) ?_
  refine gf_X1_26 C B k_o dX1_moveValue_37 ?_
  refine lv_iload C.1 C.2.1 dX1_moveValue_40 (lv_at hl 0 rfl) ?_
  refine jr_iconst C dX1_moveValue_42 ?_
  refine jr_imul C dX1_moveValue_43 ?_
  refine jr_iconst C dX1_moveValue_44 ?_
  refine jr_copy C B hl.1 q_212 q_214 q_213 q_9 80 80 (Or.inl (jk1 (ko_X1_4 k_o) rfl)) (jk3 (ko_X1_4 k_o) (ko_X1_4 k_o) rfl) (jk2 (ko_X1_4 k_o) rfl) (jk2 (ko_X1_4 k_o) rfl) (jW_R _) (jW_R _) (jkc rfl) h (Nat.le_of_ble_eq_true rfl) (Nat.le_of_ble_eq_true rfl) dX1_moveValue_45 (fun M5 _ _ h B => ?_)
  have o_M5 := B.2.2
  exact jr_vret C B hr hlocks h dX1_moveValue_48
theorem cl_X1_moveValue {p : Program} {l : Launch} {e : Env} {R : Room} {s : State} {m : MethodId} {args : Array Value} {below : List Frame} {meth : Method} {c : Code} {H : Heap} {locs : List Loc} {cells slots : Nat} {Q : State → Prop} {cc : ByteArray} {nL : Nat} {own : String} {G : jG} {H0 : Heap} {pc idx : Nat} {ls : Array Slot} {rest : List Value} {M : jM} {o a1 a2 a3 : Int} {k : jM → Prop} (C : Cx G p s args m c cc nL own) (hl : ls.size = nL) (B : Hp G M H0 H locs) (q1 : Cond.methodLink own idx yX1_moveValue ∈ tb) (hR : (rmm 1 40).frames + 1 ≤ R.frames ∧ 8 + (6 + 11) + (rmm 1 40).locals ≤ R.locals) (hcs : cells ≤ R.cells ∧ slots ≤ R.slots) (hW : (rest.map fun v => v.category).sum ≤ 8) (k_o : jK o = 2) (r_a1 : jR a1) (r_a2 : jR a2) (r_a3 : jR a3) (h : w_X1_moveValue M o a1 a2 a3 k) (hdg : decode cc pc = .ok (.invokevirtual idx, 3)) (kk : ∀ (M' : jM) (H1 : Heap) (locs1 : List Loc), k M' → Hp G M' H0 H1 locs1 → W p l e R s m args below meth c H1 locs1 cells slots Q (F0 m (pc + 3) ls rest)) : W p l e R s m args below meth c H locs cells slots Q (F0 m pc ls (.int (jI a3) :: .int (jI a2) :: .int (jI a1) :: .ref (jD G o) :: rest)) :=
  jr_callV B (jr_runV (o := o) (As := [.int (jI a1), .int (jI a2), .int (jI a3)]) (n := 3) C hl B (m_X1_moveValue B.2.2 k_o r_a1 r_a2 r_a3 h) (jE2 k_o) (by omega) rfl q1 q_497 qs_8 q_498 q_3 ⟨by decide, by decide, by decide +kernel⟩ rfl ⟨rfl, rfl⟩ hR hcs rfl hW hdg) (fun M' H1 locs1 hk B1 => kk M' H1 locs1 hk B1)
def lp_X1_addValue_19 (o : Int) (a1 : Int) (a2 : Int) (kx19 : jM → Prop) : Nat → Int → jM → Prop
  | 0, _, _ => False
  | n + 1, x4, M5 => (if x4 ≤ a2 then (kx19 M5) else (w_X1_moveValue M5 o a1 (jW (x4 - 1)) x4 (fun M11 => (jL (jW (x4 + (-1))) (fun x12 => (lp_X1_addValue_19 o a1 a2 kx19 n x12 M11))))))
def w_X1_addValue (N : Nat) (M : jM) (o : Int) (a1 : Int) (a2 : Int) (a3 : Int) (k : jM → Prop) : Prop := (jB a1 4 ∧ (if (M (o + 1) a1) < 5 then (jB a1 4 ∧ (jL (M (o + 1) a1) (fun x3 => (lp_X1_addValue_19 o a1 a2 (fun (M6 : jM) => (jB a1 4 ∧ (jB a1 4 ∧ jL (jU M6 (o + 1) a1 (jW ((M6 (o + 1) a1) + 1))) (fun M8 => (jB (jW ((jW (a1 * 5)) + a2)) 20 ∧ jL (jU M8 (o + 2) (jW ((jW (a1 * 5)) + a2)) 1) (fun M9 => (w_X1_setNumber M9 o a1 a2 0 a3 (fun M10 => (k M10))))))))) N x3 M)))) else (k M)))
set_option maxHeartbeats 4000000 in
set_option maxRecDepth 100000 in
theorem m_X1_addValue {l : Launch} {G : jG} {N : Nat} {M : jM} {o a1 a2 a3 : Int} {k : jM → Prop} (o_M : jOK M) (k_o : jK o = 2) (r_a1 : jR a1) (r_a2 : jR a2) (r_a3 : jR a3) (h : w_X1_addValue N M o a1 a2 a3 k) : Met l yX1_addValue (wsG yX1_addValue cX1_addValue 5 none) (rmm 2 65) (jPc G M [.ref (jD G o), .int (jI a1), .int (jI a2), .int (jI a3)]) (qV G k) 0 0 (gA G) := by
  refine jm_start RX1 rfl (by decide) (Nat.le_of_ble_eq_true rfl) o_M ?_
  intro p e s m args below meth c ls C hr hlocks hl B
  have hl : lv_has ls 5 [(0, .ref (jD G o)), (1, .int (jI a1)), (2, .int (jI a2)), (3, .int (jI a3))] := hl
  unfold w_X1_addValue at h
  refine lv_aload_n C.1 C.2.1 dX1_addValue_0 rfl (lv_at hl 0 rfl) ?_
  refine gf_X1_19 C B k_o dX1_addValue_1 ?_
  refine lv_iload_n C.1 C.2.1 dX1_addValue_4 rfl (lv_at hl 1 rfl) ?_
  obtain ⟨g1, h⟩ := h
  refine jr_iald C B 4 (jk1 (ko_X1_2 k_o) rfl) (jk2 (ko_X1_2 k_o) rfl) r_a1 g1 dX1_addValue_5 ?_
  refine jr_iconst C dX1_addValue_6 ?_
  refine jr_icmp_lt (tgt := 11) C (o_M (o + 1) a1).1 (jkc rfl) h dX1_addValue_7 (by decide) (fun hc7 h => ?_) (fun hc7 h => ?_)
  · refine lv_aload_n C.1 C.2.1 dX1_addValue_11 rfl (lv_at hl 0 rfl) ?_
    refine gf_X1_19 C B k_o dX1_addValue_12 ?_
    refine lv_iload_n C.1 C.2.1 dX1_addValue_15 rfl (lv_at hl 1 rfl) ?_
    obtain ⟨g2, h⟩ := h
    refine jr_iald C B 4 (jk1 (ko_X1_2 k_o) rfl) (jk2 (ko_X1_2 k_o) rfl) r_a1 g2 dX1_addValue_16 ?_
    refine jr_nm h (o_M (o + 1) a1).1 (fun x3 h r_x3 => ?_)
    refine lv_istore (lv' := [(4, .int (jI x3)), (0, .ref (jD G o)), (1, .int (jI a1)), (2, .int (jI a2)), (3, .int (jI a3))]) C.1 C.2.1 dX1_addValue_17 hl (by decide) rfl (fun ls hl => ?_)
    obtain ⟨kx19, hkx19, h⟩ : ∃ kx19 : jM → Prop, (∀ (M6 : jM) (H : Heap) (locs : List Loc) (ls : Array Slot), kx19 M6 → Hp G M6 s.heap H locs → lv_has ls 5 [(0, .ref (jD G o)), (1, .int (jI a1)), (2, .int (jI a2)), (3, .int (jI a3))] → W p l e (rmm 2 65) s m args below meth c H locs 0 0 (MQ below (qV G k) args s 0 0 (gA G)) (F0 m 42 ls [])) ∧ lp_X1_addValue_19 o a1 a2 kx19 N x3 M := by
      refine ⟨_, ?_, h⟩
      intro M6 H locs ls h  B hl
      have o_M6 := B.2.2
      refine lv_aload_n C.1 C.2.1 dX1_addValue_42 rfl (lv_at hl 0 rfl) ?_
      refine gf_X1_19 C B k_o dX1_addValue_43 ?_
      refine lv_iload_n C.1 C.2.1 dX1_addValue_46 rfl (lv_at hl 1 rfl) ?_
      refine jr_dup2 C rfl rfl dX1_addValue_47 ?_
      obtain ⟨g7, h⟩ := h
      refine jr_iald C B 4 (jk1 (ko_X1_2 k_o) rfl) (jk2 (ko_X1_2 k_o) rfl) r_a1 g7 dX1_addValue_48 ?_
      refine jr_iconst C dX1_addValue_49 ?_
      refine jr_iadd C dX1_addValue_50 ?_
      refine jr_iast C B 4 (jk1 (ko_X1_2 k_o) rfl) (jk2 (ko_X1_2 k_o) rfl) r_a1 (jW_R _) h dX1_addValue_51 (fun M8 _ _ h B => ?_)
      have o_M8 := B.2.2
      refine lv_aload_n C.1 C.2.1 dX1_addValue_52 rfl (lv_at hl 0 rfl) ?_
      refine gf_X1_23 C B k_o dX1_addValue_53 ?_
      refine lv_iload_n C.1 C.2.1 dX1_addValue_56 rfl (lv_at hl 1 rfl) ?_
      refine jr_iconst C dX1_addValue_57 ?_
      refine jr_imul C dX1_addValue_58 ?_
      refine lv_iload_n C.1 C.2.1 dX1_addValue_59 rfl (lv_at hl 2 rfl) ?_
      refine jr_iadd C dX1_addValue_60 ?_
      refine jr_iconst C dX1_addValue_61 ?_
      refine jr_iast C B 20 (jk1 (ko_X1_3 k_o) rfl) (jk2 (ko_X1_3 k_o) rfl) (jW_R _) (jkc rfl) h dX1_addValue_62 (fun M9 _ _ h B => ?_)
      have o_M9 := B.2.2
      refine lv_aload_n C.1 C.2.1 dX1_addValue_63 rfl (lv_at hl 0 rfl) ?_
      refine lv_iload_n C.1 C.2.1 dX1_addValue_64 rfl (lv_at hl 1 rfl) ?_
      refine lv_iload_n C.1 C.2.1 dX1_addValue_65 rfl (lv_at hl 2 rfl) ?_
      refine jr_iconst C dX1_addValue_66 ?_
      refine lv_iload_n C.1 C.2.1 dX1_addValue_67 rfl (lv_at hl 3 rfl) ?_
      refine cl_X1_setNumber C hl.1 B q_499 ⟨Nat.le_of_ble_eq_true rfl, Nat.le_of_ble_eq_true rfl⟩ ⟨Nat.zero_le _, Nat.zero_le _⟩ (Nat.le_of_ble_eq_true rfl) k_o r_a1 r_a2 (jkc rfl) r_a3 h dX1_addValue_68 (fun M10 _ _ h B => ?_)
      have o_M10 := B.2.2
      exact jr_vret C B hr hlocks h dX1_addValue_71
    have hL19 : ∀ (n : Nat) (x4 : Int) (M5 : jM) (H : Heap) (locs : List Loc) (ls : Array Slot), lp_X1_addValue_19 o a1 a2 kx19 n x4 M5 → jR x4 → Hp G M5 s.heap H locs → lv_has ls 5 [(4, .int (jI x4)), (0, .ref (jD G o)), (1, .int (jI a1)), (2, .int (jI a2)), (3, .int (jI a3))] → W p l e (rmm 2 65) s m args below meth c H locs 0 0 (MQ below (qV G k) args s 0 0 (gA G)) (F0 m 19 ls []) := by
      intro n
      induction n with
      | zero => intro x4 M5 H locs ls h; exact (show False from h).elim
      | succ n ih19 =>
        intro x4 M5 H locs ls h r_x4 B hl
        have o_M5 := B.2.2
        rw [lp_X1_addValue_19] at h
        refine lv_iload C.1 C.2.1 dX1_addValue_19 (lv_at hl 0 rfl) ?_
        refine lv_iload_n C.1 C.2.1 dX1_addValue_21 rfl (lv_at hl 3 rfl) ?_
        refine jr_icmp_le (tgt := 42) C r_x4 r_a2 h dX1_addValue_22 (by decide) (fun hc22 h => ?_) (fun hc22 h => ?_)
        · exact hkx19 _ _ _ _ h  B (lv_sub hl [1, 2, 3, 4] rfl)
        · refine lv_aload_n C.1 C.2.1 dX1_addValue_25 rfl (lv_at hl 1 rfl) ?_
          refine lv_iload_n C.1 C.2.1 dX1_addValue_26 rfl (lv_at hl 2 rfl) ?_
          refine lv_iload C.1 C.2.1 dX1_addValue_27 (lv_at hl 0 rfl) ?_
          refine jr_iconst C dX1_addValue_29 ?_
          refine jr_isub C dX1_addValue_30 ?_
          refine lv_iload C.1 C.2.1 dX1_addValue_31 (lv_at hl 0 rfl) ?_
          refine cl_X1_moveValue C hl.1 B q_495 ⟨Nat.le_of_ble_eq_true rfl, Nat.le_of_ble_eq_true rfl⟩ ⟨Nat.zero_le _, Nat.zero_le _⟩ (Nat.le_of_ble_eq_true rfl) k_o r_a1 (jW_R _) r_x4 h dX1_addValue_33 (fun M11 _ _ h B => ?_)
          have o_M11 := B.2.2
          refine jr_iinc (k := 0) (lv' := fun x12 => [(4, .int (jI x12)), (0, .ref (jD G o)), (1, .int (jI a1)), (2, .int (jI a2)), (3, .int (jI a3))]) C h hl rfl (by decide) (fun _ => rfl) dX1_addValue_36 (fun x12 h r_x12 ls hl => ?_)
          refine lv_goto (tgt := 19) C.1 C.2.1 dX1_addValue_39 (by decide) ?_
          exact ih19 _ _ _ _ _ h r_x12 B (lv_sub hl [0, 1, 2, 3, 4] rfl)
    exact hL19 N _ _ _ _ _ h r_x3 B (lv_sub hl [0, 1, 2, 3, 4] rfl)
  · exact jr_vret C B hr hlocks h dX1_addValue_10
theorem cl_X1_addValue {p : Program} {l : Launch} {e : Env} {R : Room} {s : State} {m : MethodId} {args : Array Value} {below : List Frame} {meth : Method} {c : Code} {H : Heap} {locs : List Loc} {cells slots : Nat} {Q : State → Prop} {cc : ByteArray} {nL : Nat} {own : String} {G : jG} {H0 : Heap} {pc idx : Nat} {ls : Array Slot} {rest : List Value} {N : Nat} {M : jM} {o a1 a2 a3 : Int} {k : jM → Prop} (C : Cx G p s args m c cc nL own) (hl : ls.size = nL) (B : Hp G M H0 H locs) (q1 : Cond.methodLink own idx yX1_addValue ∈ tb) (hR : (rmm 2 65).frames + 1 ≤ R.frames ∧ 8 + (5 + 11) + (rmm 2 65).locals ≤ R.locals) (hcs : cells ≤ R.cells ∧ slots ≤ R.slots) (hW : (rest.map fun v => v.category).sum ≤ 8) (k_o : jK o = 2) (r_a1 : jR a1) (r_a2 : jR a2) (r_a3 : jR a3) (h : w_X1_addValue N M o a1 a2 a3 k) (hdg : decode cc pc = .ok (.invokevirtual idx, 3)) (kk : ∀ (M' : jM) (H1 : Heap) (locs1 : List Loc), k M' → Hp G M' H0 H1 locs1 → W p l e R s m args below meth c H1 locs1 cells slots Q (F0 m (pc + 3) ls rest)) : W p l e R s m args below meth c H locs cells slots Q (F0 m pc ls (.int (jI a3) :: .int (jI a2) :: .int (jI a1) :: .ref (jD G o) :: rest)) :=
  jr_callV B (jr_runV (o := o) (As := [.int (jI a1), .int (jI a2), .int (jI a3)]) (n := 3) C hl B (m_X1_addValue B.2.2 k_o r_a1 r_a2 r_a3 h) (jE2 k_o) (by omega) rfl q1 q_492 q_493 q_494 q_3 ⟨by decide, by decide, by decide +kernel⟩ rfl ⟨rfl, rfl⟩ hR hcs rfl hW hdg) (fun M' H1 locs1 hk B1 => kk M' H1 locs1 hk B1)
def lp_X1_addSub_19 (o : Int) (a1 : Int) (a2 : Int) (a3 : Int) (kx19 : jM → Prop) : Nat → Int → jM → Prop
  | 0, _, _ => False
  | n + 1, x2, M3 => (if x2 ≤ a3 then (kx19 M3) else (w_X1_numberOf M3 o a1 a2 (jW (x2 - 1)) (fun x7 => (w_X1_setNumber M3 o a1 a2 x2 x7 (fun M8 => (jL (jW (x2 + (-1))) (fun x9 => (lp_X1_addSub_19 o a1 a2 a3 kx19 n x9 M8))))))))
def w_X1_addSub (N : Nat) (M : jM) (o : Int) (a1 : Int) (a2 : Int) (a3 : Int) (a4 : Int) (k : jM → Prop) : Prop := (w_X1_subCount M o a1 a2 (fun x1 => (if x1 < 4 then (lp_X1_addSub_19 o a1 a2 a3 (fun (M4 : jM) => (jB (jW ((jW (a1 * 5)) + a2)) 20 ∧ jL (jU M4 (o + 2) (jW ((jW (a1 * 5)) + a2)) (jW (x1 + 1))) (fun M5 => (w_X1_setNumber M5 o a1 a2 a3 a4 (fun M6 => (k M6)))))) N x1 M) else (k M))))
set_option maxHeartbeats 4000000 in
set_option maxRecDepth 100000 in
theorem m_X1_addSub {l : Launch} {G : jG} {N : Nat} {M : jM} {o a1 a2 a3 a4 : Int} {k : jM → Prop} (o_M : jOK M) (k_o : jK o = 2) (r_a1 : jR a1) (r_a2 : jR a2) (r_a3 : jR a3) (r_a4 : jR a4) (h : w_X1_addSub N M o a1 a2 a3 a4 k) : Met l yX1_addSub (wsG yX1_addSub cX1_addSub 7 none) (rmm 1 24) (jPc G M [.ref (jD G o), .int (jI a1), .int (jI a2), .int (jI a3), .int (jI a4)]) (qV G k) 0 0 (gA G) := by
  refine jm_start RX1 rfl (by decide) (Nat.le_of_ble_eq_true rfl) o_M ?_
  intro p e s m args below meth c ls C hr hlocks hl B
  have hl : lv_has ls 7 [(0, .ref (jD G o)), (1, .int (jI a1)), (2, .int (jI a2)), (3, .int (jI a3)), (4, .int (jI a4))] := hl
  unfold w_X1_addSub at h
  refine lv_aload_n C.1 C.2.1 dX1_addSub_0 rfl (lv_at hl 0 rfl) ?_
  refine lv_iload_n C.1 C.2.1 dX1_addSub_1 rfl (lv_at hl 1 rfl) ?_
  refine lv_iload_n C.1 C.2.1 dX1_addSub_2 rfl (lv_at hl 2 rfl) ?_
  refine cl_X1_subCount C hl.1 B q_305 ⟨Nat.le_of_ble_eq_true rfl, Nat.le_of_ble_eq_true rfl⟩ ⟨Nat.zero_le _, Nat.zero_le _⟩ (Nat.le_of_ble_eq_true rfl) k_o r_a1 r_a2 h dX1_addSub_3 (fun x1 r_x1 _ _ h B => ?_)
  refine lv_istore (lv' := [(5, .int (jI x1)), (0, .ref (jD G o)), (1, .int (jI a1)), (2, .int (jI a2)), (3, .int (jI a3)), (4, .int (jI a4))]) C.1 C.2.1 dX1_addSub_6 hl (by decide) rfl (fun ls hl => ?_)
  refine lv_iload C.1 C.2.1 dX1_addSub_8 (lv_at hl 0 rfl) ?_
  refine jr_iconst C dX1_addSub_10 ?_
  refine jr_icmp_lt (tgt := 15) C r_x1 (jkc rfl) h dX1_addSub_11 (by decide) (fun hc11 h => ?_) (fun hc11 h => ?_)
  · refine lv_iload C.1 C.2.1 dX1_addSub_15 (lv_at hl 0 rfl) ?_
    refine lv_istore (lv' := [(6, .int (jI x1)), (5, .int (jI x1)), (0, .ref (jD G o)), (1, .int (jI a1)), (2, .int (jI a2)), (3, .int (jI a3)), (4, .int (jI a4))]) C.1 C.2.1 dX1_addSub_17 hl (by decide) rfl (fun ls hl => ?_)
    obtain ⟨kx19, hkx19, h⟩ : ∃ kx19 : jM → Prop, (∀ (M4 : jM) (H : Heap) (locs : List Loc) (ls : Array Slot), kx19 M4 → Hp G M4 s.heap H locs → lv_has ls 7 [(5, .int (jI x1)), (0, .ref (jD G o)), (1, .int (jI a1)), (2, .int (jI a2)), (3, .int (jI a3)), (4, .int (jI a4))] → W p l e (rmm 1 24) s m args below meth c H locs 0 0 (MQ below (qV G k) args s 0 0 (gA G)) (F0 m 49 ls [])) ∧ lp_X1_addSub_19 o a1 a2 a3 kx19 N x1 M := by
      refine ⟨_, ?_, h⟩
      intro M4 H locs ls h  B hl
      have o_M4 := B.2.2
      refine lv_aload_n C.1 C.2.1 dX1_addSub_49 rfl (lv_at hl 1 rfl) ?_
      refine gf_X1_23 C B k_o dX1_addSub_50 ?_
      refine lv_iload_n C.1 C.2.1 dX1_addSub_53 rfl (lv_at hl 2 rfl) ?_
      refine jr_iconst C dX1_addSub_54 ?_
      refine jr_imul C dX1_addSub_55 ?_
      refine lv_iload_n C.1 C.2.1 dX1_addSub_56 rfl (lv_at hl 3 rfl) ?_
      refine jr_iadd C dX1_addSub_57 ?_
      refine lv_iload C.1 C.2.1 dX1_addSub_58 (lv_at hl 0 rfl) ?_
      refine jr_iconst C dX1_addSub_60 ?_
      refine jr_iadd C dX1_addSub_61 ?_
      refine jr_iast C B 20 (jk1 (ko_X1_3 k_o) rfl) (jk2 (ko_X1_3 k_o) rfl) (jW_R _) (jW_R _) h dX1_addSub_62 (fun M5 _ _ h B => ?_)
      have o_M5 := B.2.2
      refine lv_aload_n C.1 C.2.1 dX1_addSub_63 rfl (lv_at hl 1 rfl) ?_
      refine lv_iload_n C.1 C.2.1 dX1_addSub_64 rfl (lv_at hl 2 rfl) ?_
      refine lv_iload_n C.1 C.2.1 dX1_addSub_65 rfl (lv_at hl 3 rfl) ?_
      refine lv_iload_n C.1 C.2.1 dX1_addSub_66 rfl (lv_at hl 4 rfl) ?_
      refine lv_iload C.1 C.2.1 dX1_addSub_67 (lv_at hl 5 rfl) ?_
      refine cl_X1_setNumber C hl.1 B q_499 ⟨Nat.le_of_ble_eq_true rfl, Nat.le_of_ble_eq_true rfl⟩ ⟨Nat.zero_le _, Nat.zero_le _⟩ (Nat.le_of_ble_eq_true rfl) k_o r_a1 r_a2 r_a3 r_a4 h dX1_addSub_69 (fun M6 _ _ h B => ?_)
      have o_M6 := B.2.2
      exact jr_vret C B hr hlocks h dX1_addSub_72
    have hL19 : ∀ (n : Nat) (x2 : Int) (M3 : jM) (H : Heap) (locs : List Loc) (ls : Array Slot), lp_X1_addSub_19 o a1 a2 a3 kx19 n x2 M3 → jR x2 → Hp G M3 s.heap H locs → lv_has ls 7 [(6, .int (jI x2)), (5, .int (jI x1)), (0, .ref (jD G o)), (1, .int (jI a1)), (2, .int (jI a2)), (3, .int (jI a3)), (4, .int (jI a4))] → W p l e (rmm 1 24) s m args below meth c H locs 0 0 (MQ below (qV G k) args s 0 0 (gA G)) (F0 m 19 ls []) := by
      intro n
      induction n with
      | zero => intro x2 M3 H locs ls h; exact (show False from h).elim
      | succ n ih19 =>
        intro x2 M3 H locs ls h r_x2 B hl
        have o_M3 := B.2.2
        rw [lp_X1_addSub_19] at h
        refine lv_iload C.1 C.2.1 dX1_addSub_19 (lv_at hl 0 rfl) ?_
        refine lv_iload_n C.1 C.2.1 dX1_addSub_21 rfl (lv_at hl 5 rfl) ?_
        refine jr_icmp_le (tgt := 49) C r_x2 r_a3 h dX1_addSub_22 (by decide) (fun hc22 h => ?_) (fun hc22 h => ?_)
        · exact hkx19 _ _ _ _ h  B (lv_sub hl [1, 2, 3, 4, 5, 6] rfl)
        · refine lv_aload_n C.1 C.2.1 dX1_addSub_25 rfl (lv_at hl 2 rfl) ?_
          refine lv_iload_n C.1 C.2.1 dX1_addSub_26 rfl (lv_at hl 3 rfl) ?_
          refine lv_iload_n C.1 C.2.1 dX1_addSub_27 rfl (lv_at hl 4 rfl) ?_
          refine lv_iload C.1 C.2.1 dX1_addSub_28 (lv_at hl 0 rfl) ?_
          refine lv_aload_n C.1 C.2.1 dX1_addSub_30 rfl (lv_at hl 2 rfl) ?_
          refine lv_iload_n C.1 C.2.1 dX1_addSub_31 rfl (lv_at hl 3 rfl) ?_
          refine lv_iload_n C.1 C.2.1 dX1_addSub_32 rfl (lv_at hl 4 rfl) ?_
          refine lv_iload C.1 C.2.1 dX1_addSub_33 (lv_at hl 0 rfl) ?_
          refine jr_iconst C dX1_addSub_35 ?_
          refine jr_isub C dX1_addSub_36 ?_
          refine cl_X1_numberOf C hl.1 B q_350 ⟨Nat.le_of_ble_eq_true rfl, Nat.le_of_ble_eq_true rfl⟩ ⟨Nat.zero_le _, Nat.zero_le _⟩ (Nat.le_of_ble_eq_true rfl) k_o r_a1 r_a2 (jW_R _) h dX1_addSub_37 (fun x7 r_x7 _ _ h B => ?_)
          refine cl_X1_setNumber C hl.1 B q_499 ⟨Nat.le_of_ble_eq_true rfl, Nat.le_of_ble_eq_true rfl⟩ ⟨Nat.zero_le _, Nat.zero_le _⟩ (Nat.le_of_ble_eq_true rfl) k_o r_a1 r_a2 r_x2 r_x7 h dX1_addSub_40 (fun M8 _ _ h B => ?_)
          have o_M8 := B.2.2
          refine jr_iinc (k := 0) (lv' := fun x9 => [(6, .int (jI x9)), (5, .int (jI x1)), (0, .ref (jD G o)), (1, .int (jI a1)), (2, .int (jI a2)), (3, .int (jI a3)), (4, .int (jI a4))]) C h hl rfl (by decide) (fun _ => rfl) dX1_addSub_43 (fun x9 h r_x9 ls hl => ?_)
          refine lv_goto (tgt := 19) C.1 C.2.1 dX1_addSub_46 (by decide) ?_
          exact ih19 _ _ _ _ _ h r_x9 B (lv_sub hl [0, 1, 2, 3, 4, 5, 6] rfl)
    exact hL19 N _ _ _ _ _ h r_x1 B (lv_sub hl [0, 1, 2, 3, 4, 5, 6] rfl)
  · exact jr_vret C B hr hlocks h dX1_addSub_14
theorem cl_X1_addSub {p : Program} {l : Launch} {e : Env} {R : Room} {s : State} {m : MethodId} {args : Array Value} {below : List Frame} {meth : Method} {c : Code} {H : Heap} {locs : List Loc} {cells slots : Nat} {Q : State → Prop} {cc : ByteArray} {nL : Nat} {own : String} {G : jG} {H0 : Heap} {pc idx : Nat} {ls : Array Slot} {rest : List Value} {N : Nat} {M : jM} {o a1 a2 a3 a4 : Int} {k : jM → Prop} (C : Cx G p s args m c cc nL own) (hl : ls.size = nL) (B : Hp G M H0 H locs) (q1 : Cond.methodLink own idx yX1_addSub ∈ tb) (hR : (rmm 1 24).frames + 1 ≤ R.frames ∧ 8 + (7 + 11) + (rmm 1 24).locals ≤ R.locals) (hcs : cells ≤ R.cells ∧ slots ≤ R.slots) (hW : (rest.map fun v => v.category).sum ≤ 8) (k_o : jK o = 2) (r_a1 : jR a1) (r_a2 : jR a2) (r_a3 : jR a3) (r_a4 : jR a4) (h : w_X1_addSub N M o a1 a2 a3 a4 k) (hdg : decode cc pc = .ok (.invokevirtual idx, 3)) (kk : ∀ (M' : jM) (H1 : Heap) (locs1 : List Loc), k M' → Hp G M' H0 H1 locs1 → W p l e R s m args below meth c H1 locs1 cells slots Q (F0 m (pc + 3) ls rest)) : W p l e R s m args below meth c H locs cells slots Q (F0 m pc ls (.int (jI a4) :: .int (jI a3) :: .int (jI a2) :: .int (jI a1) :: .ref (jD G o) :: rest)) :=
  jr_callV B (jr_runV (o := o) (As := [.int (jI a1), .int (jI a2), .int (jI a3), .int (jI a4)]) (n := 4) C hl B (m_X1_addSub B.2.2 k_o r_a1 r_a2 r_a3 r_a4 h) (jE2 k_o) (by omega) rfl q1 q_508 q_509 q_510 q_3 ⟨by decide, by decide, by decide +kernel⟩ rfl ⟨rfl, rfl⟩ hR hcs rfl hW hdg) (fun M' H1 locs1 hk B1 => kk M' H1 locs1 hk B1)
def lp_X1_dropValue_4 (o : Int) (a1 : Int) (kx4 : jM → Prop) : Nat → Int → jM → Prop
  | 0, _, _ => False
  | n + 1, x2, M3 => (jB a1 4 ∧ (if x2 < (M3 (o + 1) a1) then (w_X1_moveValue M3 o a1 x2 (jW (x2 - 1)) (fun M8 => (jL (jW (x2 + 1)) (fun x9 => (lp_X1_dropValue_4 o a1 kx4 n x9 M8))))) else (kx4 M3)))
def w_X1_dropValue (N : Nat) (M : jM) (o : Int) (a1 : Int) (a2 : Int) (k : jM → Prop) : Prop := (jL (jW (a2 + 1)) (fun x1 => (lp_X1_dropValue_4 o a1 (fun (M4 : jM) => (jB a1 4 ∧ (jB a1 4 ∧ jL (jU M4 (o + 1) a1 (jW ((M4 (o + 1) a1) - 1))) (fun M6 => (k M6))))) N x1 M)))
set_option maxHeartbeats 4000000 in
set_option maxRecDepth 100000 in
theorem m_X1_dropValue {l : Launch} {G : jG} {N : Nat} {M : jM} {o a1 a2 : Int} {k : jM → Prop} (o_M : jOK M) (k_o : jK o = 2) (r_a1 : jR a1) (r_a2 : jR a2) (h : w_X1_dropValue N M o a1 a2 k) : Met l yX1_dropValue (wsG yX1_dropValue cX1_dropValue 4 none) (rmm 2 65) (jPc G M [.ref (jD G o), .int (jI a1), .int (jI a2)]) (qV G k) 0 0 (gA G) := by
  refine jm_start RX1 rfl (by decide) (Nat.le_of_ble_eq_true rfl) o_M ?_
  intro p e s m args below meth c ls C hr hlocks hl B
  have hl : lv_has ls 4 [(0, .ref (jD G o)), (1, .int (jI a1)), (2, .int (jI a2))] := hl
  unfold w_X1_dropValue at h
  refine lv_iload_n C.1 C.2.1 dX1_dropValue_0 rfl (lv_at hl 2 rfl) ?_
  refine jr_iconst C dX1_dropValue_1 ?_
  refine jr_iadd C dX1_dropValue_2 ?_
  refine jr_nm h (jW_R _) (fun x1 h r_x1 => ?_)
  refine lv_istore_n (lv' := [(3, .int (jI x1)), (0, .ref (jD G o)), (1, .int (jI a1)), (2, .int (jI a2))]) C.1 C.2.1 dX1_dropValue_3 rfl hl (by decide) rfl (fun ls hl => ?_)
  obtain ⟨kx4, hkx4, h⟩ : ∃ kx4 : jM → Prop, (∀ (M4 : jM) (H : Heap) (locs : List Loc) (ls : Array Slot), kx4 M4 → Hp G M4 s.heap H locs → lv_has ls 4 [(0, .ref (jD G o)), (1, .int (jI a1))] → W p l e (rmm 2 65) s m args below meth c H locs 0 0 (MQ below (qV G k) args s 0 0 (gA G)) (F0 m 29 ls [])) ∧ lp_X1_dropValue_4 o a1 kx4 N x1 M := by
    refine ⟨_, ?_, h⟩
    intro M4 H locs ls h  B hl
    have o_M4 := B.2.2
    refine lv_aload_n C.1 C.2.1 dX1_dropValue_29 rfl (lv_at hl 0 rfl) ?_
    refine gf_X1_19 C B k_o dX1_dropValue_30 ?_
    refine lv_iload_n C.1 C.2.1 dX1_dropValue_33 rfl (lv_at hl 1 rfl) ?_
    refine jr_dup2 C rfl rfl dX1_dropValue_34 ?_
    obtain ⟨g5, h⟩ := h
    refine jr_iald C B 4 (jk1 (ko_X1_2 k_o) rfl) (jk2 (ko_X1_2 k_o) rfl) r_a1 g5 dX1_dropValue_35 ?_
    refine jr_iconst C dX1_dropValue_36 ?_
    refine jr_isub C dX1_dropValue_37 ?_
    refine jr_iast C B 4 (jk1 (ko_X1_2 k_o) rfl) (jk2 (ko_X1_2 k_o) rfl) r_a1 (jW_R _) h dX1_dropValue_38 (fun M6 _ _ h B => ?_)
    have o_M6 := B.2.2
    exact jr_vret C B hr hlocks h dX1_dropValue_39
  have hL4 : ∀ (n : Nat) (x2 : Int) (M3 : jM) (H : Heap) (locs : List Loc) (ls : Array Slot), lp_X1_dropValue_4 o a1 kx4 n x2 M3 → jR x2 → Hp G M3 s.heap H locs → lv_has ls 4 [(3, .int (jI x2)), (0, .ref (jD G o)), (1, .int (jI a1))] → W p l e (rmm 2 65) s m args below meth c H locs 0 0 (MQ below (qV G k) args s 0 0 (gA G)) (F0 m 4 ls []) := by
    intro n
    induction n with
    | zero => intro x2 M3 H locs ls h; exact (show False from h).elim
    | succ n ih4 =>
      intro x2 M3 H locs ls h r_x2 B hl
      have o_M3 := B.2.2
      rw [lp_X1_dropValue_4] at h
      refine lv_iload_n C.1 C.2.1 dX1_dropValue_4 rfl (lv_at hl 0 rfl) ?_
      refine lv_aload_n C.1 C.2.1 dX1_dropValue_5 rfl (lv_at hl 1 rfl) ?_
      refine gf_X1_19 C B k_o dX1_dropValue_6 ?_
      refine lv_iload_n C.1 C.2.1 dX1_dropValue_9 rfl (lv_at hl 2 rfl) ?_
      obtain ⟨g7, h⟩ := h
      refine jr_iald C B 4 (jk1 (ko_X1_2 k_o) rfl) (jk2 (ko_X1_2 k_o) rfl) r_a1 g7 dX1_dropValue_10 ?_
      refine jr_icmp_ge (tgt := 29) C r_x2 (o_M3 (o + 1) a1).1 h dX1_dropValue_11 (by decide) (fun hc11 h => ?_) (fun hc11 h => ?_)
      · refine lv_aload_n C.1 C.2.1 dX1_dropValue_14 rfl (lv_at hl 1 rfl) ?_
        refine lv_iload_n C.1 C.2.1 dX1_dropValue_15 rfl (lv_at hl 2 rfl) ?_
        refine lv_iload_n C.1 C.2.1 dX1_dropValue_16 rfl (lv_at hl 0 rfl) ?_
        refine lv_iload_n C.1 C.2.1 dX1_dropValue_17 rfl (lv_at hl 0 rfl) ?_
        refine jr_iconst C dX1_dropValue_18 ?_
        refine jr_isub C dX1_dropValue_19 ?_
        refine cl_X1_moveValue C hl.1 B q_495 ⟨Nat.le_of_ble_eq_true rfl, Nat.le_of_ble_eq_true rfl⟩ ⟨Nat.zero_le _, Nat.zero_le _⟩ (Nat.le_of_ble_eq_true rfl) k_o r_a1 r_x2 (jW_R _) h dX1_dropValue_20 (fun M8 _ _ h B => ?_)
        have o_M8 := B.2.2
        refine jr_iinc (k := 0) (lv' := fun x9 => [(3, .int (jI x9)), (0, .ref (jD G o)), (1, .int (jI a1))]) C h hl rfl (by decide) (fun _ => rfl) dX1_dropValue_23 (fun x9 h r_x9 ls hl => ?_)
        refine lv_goto (tgt := 4) C.1 C.2.1 dX1_dropValue_26 (by decide) ?_
        exact ih4 _ _ _ _ _ h r_x9 B (lv_sub hl [0, 1, 2] rfl)
      · exact hkx4 _ _ _ _ h  B (lv_sub hl [1, 2] rfl)
  exact hL4 N _ _ _ _ _ h r_x1 B (lv_sub hl [0, 1, 2] rfl)
theorem cl_X1_dropValue {p : Program} {l : Launch} {e : Env} {R : Room} {s : State} {m : MethodId} {args : Array Value} {below : List Frame} {meth : Method} {c : Code} {H : Heap} {locs : List Loc} {cells slots : Nat} {Q : State → Prop} {cc : ByteArray} {nL : Nat} {own : String} {G : jG} {H0 : Heap} {pc idx : Nat} {ls : Array Slot} {rest : List Value} {N : Nat} {M : jM} {o a1 a2 : Int} {k : jM → Prop} (C : Cx G p s args m c cc nL own) (hl : ls.size = nL) (B : Hp G M H0 H locs) (q1 : Cond.methodLink own idx yX1_dropValue ∈ tb) (hR : (rmm 2 65).frames + 1 ≤ R.frames ∧ 8 + (4 + 11) + (rmm 2 65).locals ≤ R.locals) (hcs : cells ≤ R.cells ∧ slots ≤ R.slots) (hW : (rest.map fun v => v.category).sum ≤ 8) (k_o : jK o = 2) (r_a1 : jR a1) (r_a2 : jR a2) (h : w_X1_dropValue N M o a1 a2 k) (hdg : decode cc pc = .ok (.invokevirtual idx, 3)) (kk : ∀ (M' : jM) (H1 : Heap) (locs1 : List Loc), k M' → Hp G M' H0 H1 locs1 → W p l e R s m args below meth c H1 locs1 cells slots Q (F0 m (pc + 3) ls rest)) : W p l e R s m args below meth c H locs cells slots Q (F0 m pc ls (.int (jI a2) :: .int (jI a1) :: .ref (jD G o) :: rest)) :=
  jr_callV B (jr_runV (o := o) (As := [.int (jI a1), .int (jI a2)]) (n := 2) C hl B (m_X1_dropValue B.2.2 k_o r_a1 r_a2 h) (jE2 k_o) (by omega) rfl q1 q_527 q_528 q_529 q_3 ⟨by decide, by decide, by decide +kernel⟩ rfl ⟨rfl, rfl⟩ hR hcs rfl hW hdg) (fun M' H1 locs1 hk B1 => kk M' H1 locs1 hk B1)
def lp_X1_dropSub_13 (o : Int) (a1 : Int) (a2 : Int) (x1 : Int) (kx13 : jM → Prop) : Nat → Int → jM → Prop
  | 0, _, _ => False
  | n + 1, x3, M4 => (if x3 < x1 then (w_X1_numberOf M4 o a1 a2 x3 (fun x7 => (w_X1_setNumber M4 o a1 a2 (jW (x3 - 1)) x7 (fun M8 => (jL (jW (x3 + 1)) (fun x9 => (lp_X1_dropSub_13 o a1 a2 x1 kx13 n x9 M8))))))) else (kx13 M4))
def w_X1_dropSub (N : Nat) (M : jM) (o : Int) (a1 : Int) (a2 : Int) (a3 : Int) (k : jM → Prop) : Prop := (w_X1_subCount M o a1 a2 (fun x1 => (jL (jW (a3 + 1)) (fun x2 => (lp_X1_dropSub_13 o a1 a2 x1 (fun (M5 : jM) => (jB (jW ((jW (a1 * 5)) + a2)) 20 ∧ jL (jU M5 (o + 2) (jW ((jW (a1 * 5)) + a2)) (jW (x1 - 1))) (fun M6 => (k M6)))) N x2 M)))))
set_option maxHeartbeats 4000000 in
set_option maxRecDepth 100000 in
theorem m_X1_dropSub {l : Launch} {G : jG} {N : Nat} {M : jM} {o a1 a2 a3 : Int} {k : jM → Prop} (o_M : jOK M) (k_o : jK o = 2) (r_a1 : jR a1) (r_a2 : jR a2) (r_a3 : jR a3) (h : w_X1_dropSub N M o a1 a2 a3 k) : Met l yX1_dropSub (wsG yX1_dropSub cX1_dropSub 6 none) (rmm 1 24) (jPc G M [.ref (jD G o), .int (jI a1), .int (jI a2), .int (jI a3)]) (qV G k) 0 0 (gA G) := by
  refine jm_start RX1 rfl (by decide) (Nat.le_of_ble_eq_true rfl) o_M ?_
  intro p e s m args below meth c ls C hr hlocks hl B
  have hl : lv_has ls 6 [(0, .ref (jD G o)), (1, .int (jI a1)), (2, .int (jI a2)), (3, .int (jI a3))] := hl
  unfold w_X1_dropSub at h
  refine lv_aload_n C.1 C.2.1 dX1_dropSub_0 rfl (lv_at hl 0 rfl) ?_
  refine lv_iload_n C.1 C.2.1 dX1_dropSub_1 rfl (lv_at hl 1 rfl) ?_
  refine lv_iload_n C.1 C.2.1 dX1_dropSub_2 rfl (lv_at hl 2 rfl) ?_
  refine cl_X1_subCount C hl.1 B q_305 ⟨Nat.le_of_ble_eq_true rfl, Nat.le_of_ble_eq_true rfl⟩ ⟨Nat.zero_le _, Nat.zero_le _⟩ (Nat.le_of_ble_eq_true rfl) k_o r_a1 r_a2 h dX1_dropSub_3 (fun x1 r_x1 _ _ h B => ?_)
  refine lv_istore (lv' := [(4, .int (jI x1)), (0, .ref (jD G o)), (1, .int (jI a1)), (2, .int (jI a2)), (3, .int (jI a3))]) C.1 C.2.1 dX1_dropSub_6 hl (by decide) rfl (fun ls hl => ?_)
  refine lv_iload_n C.1 C.2.1 dX1_dropSub_8 rfl (lv_at hl 4 rfl) ?_
  refine jr_iconst C dX1_dropSub_9 ?_
  refine jr_iadd C dX1_dropSub_10 ?_
  refine jr_nm h (jW_R _) (fun x2 h r_x2 => ?_)
  refine lv_istore (lv' := [(5, .int (jI x2)), (4, .int (jI x1)), (0, .ref (jD G o)), (1, .int (jI a1)), (2, .int (jI a2)), (3, .int (jI a3))]) C.1 C.2.1 dX1_dropSub_11 hl (by decide) rfl (fun ls hl => ?_)
  obtain ⟨kx13, hkx13, h⟩ : ∃ kx13 : jM → Prop, (∀ (M5 : jM) (H : Heap) (locs : List Loc) (ls : Array Slot), kx13 M5 → Hp G M5 s.heap H locs → lv_has ls 6 [(4, .int (jI x1)), (0, .ref (jD G o)), (1, .int (jI a1)), (2, .int (jI a2))] → W p l e (rmm 1 24) s m args below meth c H locs 0 0 (MQ below (qV G k) args s 0 0 (gA G)) (F0 m 44 ls [])) ∧ lp_X1_dropSub_13 o a1 a2 x1 kx13 N x2 M := by
    refine ⟨_, ?_, h⟩
    intro M5 H locs ls h  B hl
    have o_M5 := B.2.2
    refine lv_aload_n C.1 C.2.1 dX1_dropSub_44 rfl (lv_at hl 1 rfl) ?_
    refine gf_X1_23 C B k_o dX1_dropSub_45 ?_
    refine lv_iload_n C.1 C.2.1 dX1_dropSub_48 rfl (lv_at hl 2 rfl) ?_
    refine jr_iconst C dX1_dropSub_49 ?_
    refine jr_imul C dX1_dropSub_50 ?_
    refine lv_iload_n C.1 C.2.1 dX1_dropSub_51 rfl (lv_at hl 3 rfl) ?_
    refine jr_iadd C dX1_dropSub_52 ?_
    refine lv_iload C.1 C.2.1 dX1_dropSub_53 (lv_at hl 0 rfl) ?_
    refine jr_iconst C dX1_dropSub_55 ?_
    refine jr_isub C dX1_dropSub_56 ?_
    refine jr_iast C B 20 (jk1 (ko_X1_3 k_o) rfl) (jk2 (ko_X1_3 k_o) rfl) (jW_R _) (jW_R _) h dX1_dropSub_57 (fun M6 _ _ h B => ?_)
    have o_M6 := B.2.2
    exact jr_vret C B hr hlocks h dX1_dropSub_58
  have hL13 : ∀ (n : Nat) (x3 : Int) (M4 : jM) (H : Heap) (locs : List Loc) (ls : Array Slot), lp_X1_dropSub_13 o a1 a2 x1 kx13 n x3 M4 → jR x3 → Hp G M4 s.heap H locs → lv_has ls 6 [(5, .int (jI x3)), (4, .int (jI x1)), (0, .ref (jD G o)), (1, .int (jI a1)), (2, .int (jI a2))] → W p l e (rmm 1 24) s m args below meth c H locs 0 0 (MQ below (qV G k) args s 0 0 (gA G)) (F0 m 13 ls []) := by
    intro n
    induction n with
    | zero => intro x3 M4 H locs ls h; exact (show False from h).elim
    | succ n ih13 =>
      intro x3 M4 H locs ls h r_x3 B hl
      have o_M4 := B.2.2
      rw [lp_X1_dropSub_13] at h
      refine lv_iload C.1 C.2.1 dX1_dropSub_13 (lv_at hl 0 rfl) ?_
      refine lv_iload C.1 C.2.1 dX1_dropSub_15 (lv_at hl 1 rfl) ?_
      refine jr_icmp_ge (tgt := 44) C r_x3 r_x1 h dX1_dropSub_17 (by decide) (fun hc17 h => ?_) (fun hc17 h => ?_)
      · refine lv_aload_n C.1 C.2.1 dX1_dropSub_20 rfl (lv_at hl 2 rfl) ?_
        refine lv_iload_n C.1 C.2.1 dX1_dropSub_21 rfl (lv_at hl 3 rfl) ?_
        refine lv_iload_n C.1 C.2.1 dX1_dropSub_22 rfl (lv_at hl 4 rfl) ?_
        refine lv_iload C.1 C.2.1 dX1_dropSub_23 (lv_at hl 0 rfl) ?_
        refine jr_iconst C dX1_dropSub_25 ?_
        refine jr_isub C dX1_dropSub_26 ?_
        refine lv_aload_n C.1 C.2.1 dX1_dropSub_27 rfl (lv_at hl 2 rfl) ?_
        refine lv_iload_n C.1 C.2.1 dX1_dropSub_28 rfl (lv_at hl 3 rfl) ?_
        refine lv_iload_n C.1 C.2.1 dX1_dropSub_29 rfl (lv_at hl 4 rfl) ?_
        refine lv_iload C.1 C.2.1 dX1_dropSub_30 (lv_at hl 0 rfl) ?_
        refine cl_X1_numberOf C hl.1 B q_350 ⟨Nat.le_of_ble_eq_true rfl, Nat.le_of_ble_eq_true rfl⟩ ⟨Nat.zero_le _, Nat.zero_le _⟩ (Nat.le_of_ble_eq_true rfl) k_o r_a1 r_a2 r_x3 h dX1_dropSub_32 (fun x7 r_x7 _ _ h B => ?_)
        refine cl_X1_setNumber C hl.1 B q_499 ⟨Nat.le_of_ble_eq_true rfl, Nat.le_of_ble_eq_true rfl⟩ ⟨Nat.zero_le _, Nat.zero_le _⟩ (Nat.le_of_ble_eq_true rfl) k_o r_a1 r_a2 (jW_R _) r_x7 h dX1_dropSub_35 (fun M8 _ _ h B => ?_)
        have o_M8 := B.2.2
        refine jr_iinc (k := 0) (lv' := fun x9 => [(5, .int (jI x9)), (4, .int (jI x1)), (0, .ref (jD G o)), (1, .int (jI a1)), (2, .int (jI a2))]) C h hl rfl (by decide) (fun _ => rfl) dX1_dropSub_38 (fun x9 h r_x9 ls hl => ?_)
        refine lv_goto (tgt := 13) C.1 C.2.1 dX1_dropSub_41 (by decide) ?_
        exact ih13 _ _ _ _ _ h r_x9 B (lv_sub hl [0, 1, 2, 3, 4] rfl)
      · exact hkx13 _ _ _ _ h  B (lv_sub hl [1, 2, 3, 4] rfl)
  exact hL13 N _ _ _ _ _ h r_x2 B (lv_sub hl [0, 1, 2, 3, 4] rfl)
theorem cl_X1_dropSub {p : Program} {l : Launch} {e : Env} {R : Room} {s : State} {m : MethodId} {args : Array Value} {below : List Frame} {meth : Method} {c : Code} {H : Heap} {locs : List Loc} {cells slots : Nat} {Q : State → Prop} {cc : ByteArray} {nL : Nat} {own : String} {G : jG} {H0 : Heap} {pc idx : Nat} {ls : Array Slot} {rest : List Value} {N : Nat} {M : jM} {o a1 a2 a3 : Int} {k : jM → Prop} (C : Cx G p s args m c cc nL own) (hl : ls.size = nL) (B : Hp G M H0 H locs) (q1 : Cond.methodLink own idx yX1_dropSub ∈ tb) (hR : (rmm 1 24).frames + 1 ≤ R.frames ∧ 8 + (6 + 11) + (rmm 1 24).locals ≤ R.locals) (hcs : cells ≤ R.cells ∧ slots ≤ R.slots) (hW : (rest.map fun v => v.category).sum ≤ 8) (k_o : jK o = 2) (r_a1 : jR a1) (r_a2 : jR a2) (r_a3 : jR a3) (h : w_X1_dropSub N M o a1 a2 a3 k) (hdg : decode cc pc = .ok (.invokevirtual idx, 3)) (kk : ∀ (M' : jM) (H1 : Heap) (locs1 : List Loc), k M' → Hp G M' H0 H1 locs1 → W p l e R s m args below meth c H1 locs1 cells slots Q (F0 m (pc + 3) ls rest)) : W p l e R s m args below meth c H locs cells slots Q (F0 m pc ls (.int (jI a3) :: .int (jI a2) :: .int (jI a1) :: .ref (jD G o) :: rest)) :=
  jr_callV B (jr_runV (o := o) (As := [.int (jI a1), .int (jI a2), .int (jI a3)]) (n := 3) C hl B (m_X1_dropSub B.2.2 k_o r_a1 r_a2 r_a3 h) (jE2 k_o) (by omega) rfl q1 q_531 q_532 q_533 q_3 ⟨by decide, by decide, by decide +kernel⟩ rfl ⟨rfl, rfl⟩ hR hcs rfl hW hdg) (fun M' H1 locs1 hk B1 => kk M' H1 locs1 hk B1)
def w_X2_add (M : jM) (o : Int) (a1 : Int) (k : jM → Prop) : Prop := (if (M o 1) < 20 then (jB (M o 1) 20 ∧ jL (jU M (o + 1) (M o 1) a1) (fun M1 => (jL (jU M1 o 1 (jW ((M1 o 1) + 1))) (fun M2 => (k M2))))) else (k M))
set_option maxHeartbeats 4000000 in
set_option maxRecDepth 100000 in
theorem m_X2_add {l : Launch} {G : jG} {M : jM} {o a1 : Int} {k : jM → Prop} (o_M : jOK M) (k_o : jK o = 3) (r_a1 : jR a1) (h : w_X2_add M o a1 k) : Met l yX2_add (wsG yX2_add cX2_add 2 none) (rmm 0 0) (jPc G M [.ref (jD G o), .int (jI a1)]) (qV G k) 0 0 (gA G) := by
  refine jm_start RX2 rfl (by decide) (Nat.le_of_ble_eq_true rfl) o_M ?_
  intro p e s m args below meth c ls C hr hlocks hl B
  have hl : lv_has ls 2 [(0, .ref (jD G o)), (1, .int (jI a1))] := hl
  unfold w_X2_add at h
  refine lv_aload_n C.1 C.2.1 dX2_add_0 rfl (lv_at hl 0 rfl) ?_
  refine gf_X2_15 C B k_o dX2_add_1 ?_
  refine jr_bipush C dX2_add_4 (by decide) ?_
  refine jr_icmp_ge (tgt := 29) C (o_M o 1).1 (jkc rfl) h dX2_add_6 (by decide) (fun hc6 h => ?_) (fun hc6 h => ?_)
  · refine lv_aload_n C.1 C.2.1 dX2_add_9 rfl (lv_at hl 0 rfl) ?_
    refine gf_X2_9 C B k_o dX2_add_10 ?_
    refine lv_aload_n C.1 C.2.1 dX2_add_13 rfl (lv_at hl 0 rfl) ?_
    refine gf_X2_15 C B k_o dX2_add_14 ?_
    refine lv_iload_n C.1 C.2.1 dX2_add_17 rfl (lv_at hl 1 rfl) ?_
    refine jr_iast C B 20 (jk1 (ko_X2_0 k_o) rfl) (jk2 (ko_X2_0 k_o) rfl) (o_M o 1).1 r_a1 h dX2_add_18 (fun M1 _ _ h B => ?_)
    have o_M1 := B.2.2
    refine lv_aload_n C.1 C.2.1 dX2_add_19 rfl (lv_at hl 0 rfl) ?_
    refine lv_dup C.1 C.2.1 dX2_add_20 rfl ?_
    refine gf_X2_15 C B k_o dX2_add_21 ?_
    refine jr_iconst C dX2_add_24 ?_
    refine jr_iadd C dX2_add_25 ?_
    refine pf_X2_15 C B k_o (jW_R _) h dX2_add_26 (fun M2 _ _ h B => ?_)
    have o_M2 := B.2.2
    exact jr_vret C B hr hlocks h dX2_add_29
  · exact jr_vret C B hr hlocks h dX2_add_29
theorem cl_X2_add {p : Program} {l : Launch} {e : Env} {R : Room} {s : State} {m : MethodId} {args : Array Value} {below : List Frame} {meth : Method} {c : Code} {H : Heap} {locs : List Loc} {cells slots : Nat} {Q : State → Prop} {cc : ByteArray} {nL : Nat} {own : String} {G : jG} {H0 : Heap} {pc idx : Nat} {ls : Array Slot} {rest : List Value} {M : jM} {o a1 : Int} {k : jM → Prop} (C : Cx G p s args m c cc nL own) (hl : ls.size = nL) (B : Hp G M H0 H locs) (q1 : Cond.methodLink own idx yX2_add ∈ tb) (hR : (rmm 0 0).frames + 1 ≤ R.frames ∧ 8 + (2 + 11) + (rmm 0 0).locals ≤ R.locals) (hcs : cells ≤ R.cells ∧ slots ≤ R.slots) (hW : (rest.map fun v => v.category).sum ≤ 8) (k_o : jK o = 3) (r_a1 : jR a1) (h : w_X2_add M o a1 k) (hdg : decode cc pc = .ok (.invokevirtual idx, 3)) (kk : ∀ (M' : jM) (H1 : Heap) (locs1 : List Loc), k M' → Hp G M' H0 H1 locs1 → W p l e R s m args below meth c H1 locs1 cells slots Q (F0 m (pc + 3) ls rest)) : W p l e R s m args below meth c H locs cells slots Q (F0 m pc ls (.int (jI a1) :: .ref (jD G o) :: rest)) :=
  jr_callV B (jr_runV (o := o) (As := [.int (jI a1)]) (n := 1) C hl B (m_X2_add B.2.2 k_o r_a1 h) (jE3 k_o) (by omega) rfl q1 q_352 q_353 q_354 q_6 ⟨by decide, by decide, by decide +kernel⟩ rfl ⟨rfl, rfl⟩ hR hcs rfl hW hdg) (fun M' H1 locs1 hk B1 => kk M' H1 locs1 hk B1)
def lp_X1_giveSubs_15 (o : Int) (a1 : Int) (a2 : Int) (x1 : Int) (kx15 : jM → Prop) : Nat → Int → jM → Prop
  | 0, _, _ => False
  | n + 1, x5, M6 => (w_X1_subCount M6 o a1 x1 (fun x9 => (if x5 < x9 then (w_X1_numberOf M6 o a1 x1 x5 (fun x10 => (w_X2_add M6 a2 x10 (fun M11 => (jL (jW (x5 + 1)) (fun x12 => (lp_X1_giveSubs_15 o a1 a2 x1 kx15 n x12 M11))))))) else (kx15 M6))))
def lp_X1_giveSubs_2 (N : Nat) (o : Int) (a1 : Int) (a2 : Int) (kx2 : jM → Prop) : Nat → Int → jM → Prop
  | 0, _, _ => False
  | n + 1, x1, M2 => (jB a1 4 ∧ (if x1 < (M2 (o + 1) a1) then (lp_X1_giveSubs_15 o a1 a2 x1 (fun (M7 : jM) => (jL (jW (x1 + 1)) (fun x8 => (lp_X1_giveSubs_2 N o a1 a2 kx2 n x8 M7)))) N 0 M2) else (kx2 M2)))
def w_X1_giveSubs (N : Nat) (M : jM) (o : Int) (a1 : Int) (a2 : Int) (k : jM → Prop) : Prop := (lp_X1_giveSubs_2 N o a1 a2 (fun (M3 : jM) => (k M3)) N 0 M)
set_option maxHeartbeats 4000000 in
set_option maxRecDepth 100000 in
theorem m_X1_giveSubs {l : Launch} {G : jG} {N : Nat} {M : jM} {o a1 a2 : Int} {k : jM → Prop} (o_M : jOK M) (k_o : jK o = 2) (r_a1 : jR a1) (k_a2 : jK a2 = 3) (h : w_X1_giveSubs N M o a1 a2 k) : Met l yX1_giveSubs (wsG yX1_giveSubs cX1_giveSubs 5 none) (rmm 1 23) (jPc G M [.ref (jD G o), .int (jI a1), .ref (jD G a2)]) (qV G k) 0 0 (gA G) := by
  refine jm_start RX1 rfl (by decide) (Nat.le_of_ble_eq_true rfl) o_M ?_
  intro p e s m args below meth c ls C hr hlocks hl B
  have hl : lv_has ls 5 [(0, .ref (jD G o)), (1, .int (jI a1)), (2, .ref (jD G a2))] := hl
  unfold w_X1_giveSubs at h
  refine jr_iconst C dX1_giveSubs_0 ?_
  refine lv_istore_n (lv' := [(3, .int (jI 0)), (0, .ref (jD G o)), (1, .int (jI a1)), (2, .ref (jD G a2))]) C.1 C.2.1 dX1_giveSubs_1 rfl hl (by decide) rfl (fun ls hl => ?_)
  obtain ⟨kx2, hkx2, h⟩ : ∃ kx2 : jM → Prop, (∀ (M3 : jM) (H : Heap) (locs : List Loc) (ls : Array Slot), kx2 M3 → Hp G M3 s.heap H locs → lv_has ls 5 [] → W p l e (rmm 1 23) s m args below meth c H locs 0 0 (MQ below (qV G k) args s 0 0 (gA G)) (F0 m 50 ls [])) ∧ lp_X1_giveSubs_2 N o a1 a2 kx2 N 0 M := by
    refine ⟨_, ?_, h⟩
    intro M3 H locs ls h  B hl
    have o_M3 := B.2.2
    exact jr_vret C B hr hlocks h dX1_giveSubs_50
  have hL2 : ∀ (n : Nat) (x1 : Int) (M2 : jM) (H : Heap) (locs : List Loc) (ls : Array Slot), lp_X1_giveSubs_2 N o a1 a2 kx2 n x1 M2 → jR x1 → Hp G M2 s.heap H locs → lv_has ls 5 [(3, .int (jI x1)), (0, .ref (jD G o)), (1, .int (jI a1)), (2, .ref (jD G a2))] → W p l e (rmm 1 23) s m args below meth c H locs 0 0 (MQ below (qV G k) args s 0 0 (gA G)) (F0 m 2 ls []) := by
    intro n
    induction n with
    | zero => intro x1 M2 H locs ls h; exact (show False from h).elim
    | succ n ih2 =>
      intro x1 M2 H locs ls h r_x1 B hl
      have o_M2 := B.2.2
      rw [lp_X1_giveSubs_2] at h
      refine lv_iload_n C.1 C.2.1 dX1_giveSubs_2 rfl (lv_at hl 0 rfl) ?_
      refine lv_aload_n C.1 C.2.1 dX1_giveSubs_3 rfl (lv_at hl 1 rfl) ?_
      refine gf_X1_19 C B k_o dX1_giveSubs_4 ?_
      refine lv_iload_n C.1 C.2.1 dX1_giveSubs_7 rfl (lv_at hl 2 rfl) ?_
      obtain ⟨g4, h⟩ := h
      refine jr_iald C B 4 (jk1 (ko_X1_2 k_o) rfl) (jk2 (ko_X1_2 k_o) rfl) r_a1 g4 dX1_giveSubs_8 ?_
      refine jr_icmp_ge (tgt := 50) C r_x1 (o_M2 (o + 1) a1).1 h dX1_giveSubs_9 (by decide) (fun hc9 h => ?_) (fun hc9 h => ?_)
      · refine jr_iconst C dX1_giveSubs_12 ?_
        refine lv_istore (lv' := [(4, .int (jI 0)), (3, .int (jI x1)), (0, .ref (jD G o)), (1, .int (jI a1)), (2, .ref (jD G a2))]) C.1 C.2.1 dX1_giveSubs_13 hl (by decide) rfl (fun ls hl => ?_)
        obtain ⟨kx15, hkx15, h⟩ : ∃ kx15 : jM → Prop, (∀ (M7 : jM) (H : Heap) (locs : List Loc) (ls : Array Slot), kx15 M7 → Hp G M7 s.heap H locs → lv_has ls 5 [(3, .int (jI x1)), (0, .ref (jD G o)), (1, .int (jI a1)), (2, .ref (jD G a2))] → W p l e (rmm 1 23) s m args below meth c H locs 0 0 (MQ below (qV G k) args s 0 0 (gA G)) (F0 m 44 ls [])) ∧ lp_X1_giveSubs_15 o a1 a2 x1 kx15 N 0 M2 := by
          refine ⟨_, ?_, h⟩
          intro M7 H locs ls h  B hl
          have o_M7 := B.2.2
          refine jr_iinc (k := 0) (lv' := fun x8 => [(3, .int (jI x8)), (0, .ref (jD G o)), (1, .int (jI a1)), (2, .ref (jD G a2))]) C h hl rfl (by decide) (fun _ => rfl) dX1_giveSubs_44 (fun x8 h r_x8 ls hl => ?_)
          refine lv_goto (tgt := 2) C.1 C.2.1 dX1_giveSubs_47 (by decide) ?_
          exact ih2 _ _ _ _ _ h r_x8 B (lv_sub hl [0, 1, 2, 3] rfl)
        have hL15 : ∀ (n : Nat) (x5 : Int) (M6 : jM) (H : Heap) (locs : List Loc) (ls : Array Slot), lp_X1_giveSubs_15 o a1 a2 x1 kx15 n x5 M6 → jR x5 → Hp G M6 s.heap H locs → lv_has ls 5 [(4, .int (jI x5)), (3, .int (jI x1)), (0, .ref (jD G o)), (1, .int (jI a1)), (2, .ref (jD G a2))] → W p l e (rmm 1 23) s m args below meth c H locs 0 0 (MQ below (qV G k) args s 0 0 (gA G)) (F0 m 15 ls []) := by
          intro n
          induction n with
          | zero => intro x5 M6 H locs ls h; exact (show False from h).elim
          | succ n ih15 =>
            intro x5 M6 H locs ls h r_x5 B hl
            have o_M6 := B.2.2
            rw [lp_X1_giveSubs_15] at h
            refine lv_iload C.1 C.2.1 dX1_giveSubs_15 (lv_at hl 0 rfl) ?_
            refine lv_aload_n C.1 C.2.1 dX1_giveSubs_17 rfl (lv_at hl 2 rfl) ?_
            refine lv_iload_n C.1 C.2.1 dX1_giveSubs_18 rfl (lv_at hl 3 rfl) ?_
            refine lv_iload_n C.1 C.2.1 dX1_giveSubs_19 rfl (lv_at hl 1 rfl) ?_
            refine cl_X1_subCount C hl.1 B q_305 ⟨Nat.le_of_ble_eq_true rfl, Nat.le_of_ble_eq_true rfl⟩ ⟨Nat.zero_le _, Nat.zero_le _⟩ (Nat.le_of_ble_eq_true rfl) k_o r_a1 r_x1 h dX1_giveSubs_20 (fun x9 r_x9 _ _ h B => ?_)
            refine jr_icmp_ge (tgt := 44) C r_x5 r_x9 h dX1_giveSubs_23 (by decide) (fun hc23 h => ?_) (fun hc23 h => ?_)
            · refine lv_aload_n C.1 C.2.1 dX1_giveSubs_26 rfl (lv_at hl 4 rfl) ?_
              refine lv_aload_n C.1 C.2.1 dX1_giveSubs_27 rfl (lv_at hl 2 rfl) ?_
              refine lv_iload_n C.1 C.2.1 dX1_giveSubs_28 rfl (lv_at hl 3 rfl) ?_
              refine lv_iload_n C.1 C.2.1 dX1_giveSubs_29 rfl (lv_at hl 1 rfl) ?_
              refine lv_iload C.1 C.2.1 dX1_giveSubs_30 (lv_at hl 0 rfl) ?_
              refine cl_X1_numberOf C hl.1 B q_350 ⟨Nat.le_of_ble_eq_true rfl, Nat.le_of_ble_eq_true rfl⟩ ⟨Nat.zero_le _, Nat.zero_le _⟩ (Nat.le_of_ble_eq_true rfl) k_o r_a1 r_x1 r_x5 h dX1_giveSubs_32 (fun x10 r_x10 _ _ h B => ?_)
              refine cl_X2_add C hl.1 B q_351 ⟨Nat.le_of_ble_eq_true rfl, Nat.le_of_ble_eq_true rfl⟩ ⟨Nat.zero_le _, Nat.zero_le _⟩ (Nat.le_of_ble_eq_true rfl) k_a2 r_x10 h dX1_giveSubs_35 (fun M11 _ _ h B => ?_)
              have o_M11 := B.2.2
              refine jr_iinc (k := 0) (lv' := fun x12 => [(4, .int (jI x12)), (3, .int (jI x1)), (0, .ref (jD G o)), (1, .int (jI a1)), (2, .ref (jD G a2))]) C h hl rfl (by decide) (fun _ => rfl) dX1_giveSubs_38 (fun x12 h r_x12 ls hl => ?_)
              refine lv_goto (tgt := 15) C.1 C.2.1 dX1_giveSubs_41 (by decide) ?_
              exact ih15 _ _ _ _ _ h r_x12 B (lv_sub hl [0, 1, 2, 3, 4] rfl)
            · exact hkx15 _ _ _ _ h  B (lv_sub hl [1, 2, 3, 4] rfl)
        exact hL15 N _ _ _ _ _ h (jkc rfl) B (lv_sub hl [0, 1, 2, 3, 4] rfl)
      · exact hkx2 _ _ _ _ h  B (lv_sub hl [] rfl)
  exact hL2 N _ _ _ _ _ h (jkc rfl) B (lv_sub hl [0, 1, 2, 3] rfl)
theorem cl_X1_giveSubs {p : Program} {l : Launch} {e : Env} {R : Room} {s : State} {m : MethodId} {args : Array Value} {below : List Frame} {meth : Method} {c : Code} {H : Heap} {locs : List Loc} {cells slots : Nat} {Q : State → Prop} {cc : ByteArray} {nL : Nat} {own : String} {G : jG} {H0 : Heap} {pc idx : Nat} {ls : Array Slot} {rest : List Value} {N : Nat} {M : jM} {o a1 a2 : Int} {k : jM → Prop} (C : Cx G p s args m c cc nL own) (hl : ls.size = nL) (B : Hp G M H0 H locs) (q1 : Cond.methodLink own idx yX1_giveSubs ∈ tb) (hR : (rmm 1 23).frames + 1 ≤ R.frames ∧ 8 + (5 + 11) + (rmm 1 23).locals ≤ R.locals) (hcs : cells ≤ R.cells ∧ slots ≤ R.slots) (hW : (rest.map fun v => v.category).sum ≤ 8) (k_o : jK o = 2) (r_a1 : jR a1) (k_a2 : jK a2 = 3) (h : w_X1_giveSubs N M o a1 a2 k) (hdg : decode cc pc = .ok (.invokevirtual idx, 3)) (kk : ∀ (M' : jM) (H1 : Heap) (locs1 : List Loc), k M' → Hp G M' H0 H1 locs1 → W p l e R s m args below meth c H1 locs1 cells slots Q (F0 m (pc + 3) ls rest)) : W p l e R s m args below meth c H locs cells slots Q (F0 m pc ls (.ref (jD G a2) :: .int (jI a1) :: .ref (jD G o) :: rest)) :=
  jr_callV B (jr_runV (o := o) (As := [.int (jI a1), .ref (jD G a2)]) (n := 2) C hl B (m_X1_giveSubs B.2.2 k_o r_a1 k_a2 h) (jE2 k_o) (by omega) rfl q1 q_347 q_348 q_349 q_3 ⟨by decide, by decide, by decide +kernel⟩ rfl ⟨rfl, rfl⟩ hR hcs rfl hW hdg) (fun M' H1 locs1 hk B1 => kk M' H1 locs1 hk B1)
def lp_X2_sum_4 (o : Int) (M : jM) (kx4 : Int → Prop) : Nat → Int → Int → Prop
  | 0, _, _ => False
  | n + 1, x1, x2 => (if x2 < (M o 1) then (jB x2 20 ∧ (jL (jW (x1 + (M (o + 1) x2))) (fun x5 => (jL (jW (x2 + 1)) (fun x6 => (lp_X2_sum_4 o M kx4 n x5 x6)))))) else (kx4 x1))
def w_X2_sum (N : Nat) (M : jM) (o : Int) (k : Int → Prop) : Prop := (lp_X2_sum_4 o M (fun (x3 : Int) => (k x3)) N 0 0)
set_option maxHeartbeats 4000000 in
set_option maxRecDepth 100000 in
theorem m_X2_sum {l : Launch} {G : jG} {N : Nat} {M : jM} {o : Int} {k : Int → Prop} (o_M : jOK M) (k_o : jK o = 3) (h : w_X2_sum N M o k) : Met l yX2_sum (wsG yX2_sum cX2_sum 3 (some .int)) (rmm 0 0) (jPc G M [.ref (jD G o)]) (qI G (fun r M' => M' = M ∧ k r)) 0 0 (gA G) := by
  refine jm_start RX2 rfl (by decide) (Nat.le_of_ble_eq_true rfl) o_M ?_
  intro p e s m args below meth c ls C hr hlocks hl B
  have hl : lv_has ls 3 [(0, .ref (jD G o))] := hl
  unfold w_X2_sum at h
  refine jr_iconst C dX2_sum_0 ?_
  refine lv_istore_n (lv' := [(1, .int (jI 0)), (0, .ref (jD G o))]) C.1 C.2.1 dX2_sum_1 rfl hl (by decide) rfl (fun ls hl => ?_)
  refine jr_iconst C dX2_sum_2 ?_
  refine lv_istore_n (lv' := [(2, .int (jI 0)), (1, .int (jI 0)), (0, .ref (jD G o))]) C.1 C.2.1 dX2_sum_3 rfl hl (by decide) rfl (fun ls hl => ?_)
  obtain ⟨kx4, hkx4, h⟩ : ∃ kx4 : Int → Prop, (∀ (x3 : Int) (H : Heap) (locs : List Loc) (ls : Array Slot), kx4 x3 → jR x3 → Hp G M s.heap H locs → lv_has ls 3 [(1, .int (jI x3))] → W p l e (rmm 0 0) s m args below meth c H locs 0 0 (MQ below (qI G (fun r M' => M' = M ∧ k r)) args s 0 0 (gA G)) (F0 m 27 ls [])) ∧ lp_X2_sum_4 o M kx4 N 0 0 := by
    refine ⟨_, ?_, h⟩
    intro x3 H locs ls h r_x3 B hl
    refine lv_iload_n C.1 C.2.1 dX2_sum_27 rfl (lv_at hl 0 rfl) ?_
    exact jr_iret C B hr hlocks r_x3 ⟨rfl, h⟩ dX2_sum_28
  have hL4 : ∀ (n : Nat) (x1 : Int) (x2 : Int) (H : Heap) (locs : List Loc) (ls : Array Slot), lp_X2_sum_4 o M kx4 n x1 x2 → jR x1 → jR x2 → Hp G M s.heap H locs → lv_has ls 3 [(1, .int (jI x1)), (2, .int (jI x2)), (0, .ref (jD G o))] → W p l e (rmm 0 0) s m args below meth c H locs 0 0 (MQ below (qI G (fun r M' => M' = M ∧ k r)) args s 0 0 (gA G)) (F0 m 4 ls []) := by
    intro n
    induction n with
    | zero => intro x1 x2 H locs ls h; exact (show False from h).elim
    | succ n ih4 =>
      intro x1 x2 H locs ls h r_x1 r_x2 B hl
      rw [lp_X2_sum_4] at h
      refine lv_iload_n C.1 C.2.1 dX2_sum_4 rfl (lv_at hl 1 rfl) ?_
      refine lv_aload_n C.1 C.2.1 dX2_sum_5 rfl (lv_at hl 2 rfl) ?_
      refine gf_X2_15 C B k_o dX2_sum_6 ?_
      refine jr_icmp_ge (tgt := 27) C r_x2 (o_M o 1).1 h dX2_sum_9 (by decide) (fun hc9 h => ?_) (fun hc9 h => ?_)
      · refine lv_iload_n C.1 C.2.1 dX2_sum_12 rfl (lv_at hl 0 rfl) ?_
        refine lv_aload_n C.1 C.2.1 dX2_sum_13 rfl (lv_at hl 2 rfl) ?_
        refine gf_X2_9 C B k_o dX2_sum_14 ?_
        refine lv_iload_n C.1 C.2.1 dX2_sum_17 rfl (lv_at hl 1 rfl) ?_
        obtain ⟨g4, h⟩ := h
        refine jr_iald C B 20 (jk1 (ko_X2_0 k_o) rfl) (jk2 (ko_X2_0 k_o) rfl) r_x2 g4 dX2_sum_18 ?_
        refine jr_iadd C dX2_sum_19 ?_
        refine jr_nm h (jW_R _) (fun x5 h r_x5 => ?_)
        refine lv_istore_n (lv' := [(1, .int (jI x5)), (2, .int (jI x2)), (0, .ref (jD G o))]) C.1 C.2.1 dX2_sum_20 rfl hl (by decide) rfl (fun ls hl => ?_)
        refine jr_iinc (k := 1) (lv' := fun x6 => [(2, .int (jI x6)), (1, .int (jI x5)), (0, .ref (jD G o))]) C h hl rfl (by decide) (fun _ => rfl) dX2_sum_21 (fun x6 h r_x6 ls hl => ?_)
        refine lv_goto (tgt := 4) C.1 C.2.1 dX2_sum_24 (by decide) ?_
        exact ih4 _ _ _ _ _ h r_x5 r_x6 B (lv_sub hl [1, 0, 2] rfl)
      · exact hkx4 _ _ _ _ h r_x1 B (lv_sub hl [0] rfl)
  exact hL4 N _ _ _ _ _ h (jkc rfl) (jkc rfl) B (lv_sub hl [1, 0, 2] rfl)
theorem cl_X2_sum {p : Program} {l : Launch} {e : Env} {R : Room} {s : State} {m : MethodId} {args : Array Value} {below : List Frame} {meth : Method} {c : Code} {H : Heap} {locs : List Loc} {cells slots : Nat} {Q : State → Prop} {cc : ByteArray} {nL : Nat} {own : String} {G : jG} {H0 : Heap} {pc idx : Nat} {ls : Array Slot} {rest : List Value} {N : Nat} {M : jM} {o : Int} {k : Int → Prop} (C : Cx G p s args m c cc nL own) (hl : ls.size = nL) (B : Hp G M H0 H locs) (q1 : Cond.methodLink own idx yX2_sum ∈ tb) (hR : (rmm 0 0).frames + 1 ≤ R.frames ∧ 8 + (3 + 11) + (rmm 0 0).locals ≤ R.locals) (hcs : cells ≤ R.cells ∧ slots ≤ R.slots) (hW : (rest.map fun v => v.category).sum ≤ 8) (k_o : jK o = 3) (h : w_X2_sum N M o k) (hdg : decode cc pc = .ok (.invokevirtual idx, 3)) (kk : ∀ (r : Int), jR r → ∀ (H1 : Heap) (locs1 : List Loc), k r → Hp G M H0 H1 locs1 → W p l e R s m args below meth c H1 locs1 cells slots Q (F0 m (pc + 3) ls (.int (jI r) :: rest))) : W p l e R s m args below meth c H locs cells slots Q (F0 m pc ls (.ref (jD G o) :: rest)) :=
  jr_callI B (jr_runV (o := o) (As := []) (n := 0) C hl B (m_X2_sum B.2.2 k_o h) (jE3 k_o) (by omega) rfl q1 q_362 q_363 q_364 q_6 ⟨by decide, by decide, by decide +kernel⟩ rfl ⟨rfl, rfl⟩ hR hcs rfl hW hdg) (fun r M' H1 locs1 hr hk B1 => by obtain ⟨rfl, hk⟩ := hk; exact kk r hr H1 locs1 hk B1)
def w_X1_giveSum (N : Nat) (M : jM) (o : Int) (a1 : Int) (a2 : Int) (k : jM → Prop) : Prop := (w_X1_giveSubs N M o a1 a2 (fun M1 => (w_X2_sum N M1 a2 (fun x2 => (jL (jU M1 a2 1 0) (fun M3 => (w_X2_add M3 a2 x2 (fun M4 => (k M4)))))))))
set_option maxHeartbeats 4000000 in
set_option maxRecDepth 100000 in
theorem m_X1_giveSum {l : Launch} {G : jG} {N : Nat} {M : jM} {o a1 a2 : Int} {k : jM → Prop} (o_M : jOK M) (k_o : jK o = 2) (r_a1 : jR a1) (k_a2 : jK a2 = 3) (h : w_X1_giveSum N M o a1 a2 k) : Met l yX1_giveSum (wsG yX1_giveSum cX1_giveSum 4 none) (rmm 2 47) (jPc G M [.ref (jD G o), .int (jI a1), .ref (jD G a2)]) (qV G k) 0 0 (gA G) := by
  refine jm_start RX1 rfl (by decide) (Nat.le_of_ble_eq_true rfl) o_M ?_
  intro p e s m args below meth c ls C hr hlocks hl B
  have hl : lv_has ls 4 [(0, .ref (jD G o)), (1, .int (jI a1)), (2, .ref (jD G a2))] := hl
  unfold w_X1_giveSum at h
  refine lv_aload_n C.1 C.2.1 dX1_giveSum_0 rfl (lv_at hl 0 rfl) ?_
  refine lv_iload_n C.1 C.2.1 dX1_giveSum_1 rfl (lv_at hl 1 rfl) ?_
  refine lv_aload_n C.1 C.2.1 dX1_giveSum_2 rfl (lv_at hl 2 rfl) ?_
  refine cl_X1_giveSubs C hl.1 B q_360 ⟨Nat.le_of_ble_eq_true rfl, Nat.le_of_ble_eq_true rfl⟩ ⟨Nat.zero_le _, Nat.zero_le _⟩ (Nat.le_of_ble_eq_true rfl) k_o r_a1 k_a2 h dX1_giveSum_3 (fun M1 _ _ h B => ?_)
  have o_M1 := B.2.2
  refine lv_aload_n C.1 C.2.1 dX1_giveSum_6 rfl (lv_at hl 2 rfl) ?_
  refine cl_X2_sum C hl.1 B q_361 ⟨Nat.le_of_ble_eq_true rfl, Nat.le_of_ble_eq_true rfl⟩ ⟨Nat.zero_le _, Nat.zero_le _⟩ (Nat.le_of_ble_eq_true rfl) k_a2 h dX1_giveSum_7 (fun x2 r_x2 _ _ h B => ?_)
  refine lv_istore_n (lv' := [(3, .int (jI x2)), (0, .ref (jD G o)), (1, .int (jI a1)), (2, .ref (jD G a2))]) C.1 C.2.1 dX1_giveSum_10 rfl hl (by decide) rfl (fun ls hl => ?_)
  refine lv_aload_n C.1 C.2.1 dX1_giveSum_11 rfl (lv_at hl 3 rfl) ?_
  refine jr_iconst C dX1_giveSum_12 ?_
  refine pf_X1_83 C B k_a2 (jkc rfl) h dX1_giveSum_13 (fun M3 _ _ h B => ?_)
  have o_M3 := B.2.2
  refine lv_aload_n C.1 C.2.1 dX1_giveSum_16 rfl (lv_at hl 3 rfl) ?_
  refine lv_iload_n C.1 C.2.1 dX1_giveSum_17 rfl (lv_at hl 0 rfl) ?_
  refine cl_X2_add C hl.1 B q_351 ⟨Nat.le_of_ble_eq_true rfl, Nat.le_of_ble_eq_true rfl⟩ ⟨Nat.zero_le _, Nat.zero_le _⟩ (Nat.le_of_ble_eq_true rfl) k_a2 r_x2 h dX1_giveSum_18 (fun M4 _ _ h B => ?_)
  have o_M4 := B.2.2
  exact jr_vret C B hr hlocks h dX1_giveSum_21
theorem cl_X1_giveSum {p : Program} {l : Launch} {e : Env} {R : Room} {s : State} {m : MethodId} {args : Array Value} {below : List Frame} {meth : Method} {c : Code} {H : Heap} {locs : List Loc} {cells slots : Nat} {Q : State → Prop} {cc : ByteArray} {nL : Nat} {own : String} {G : jG} {H0 : Heap} {pc idx : Nat} {ls : Array Slot} {rest : List Value} {N : Nat} {M : jM} {o a1 a2 : Int} {k : jM → Prop} (C : Cx G p s args m c cc nL own) (hl : ls.size = nL) (B : Hp G M H0 H locs) (q1 : Cond.methodLink own idx yX1_giveSum ∈ tb) (hR : (rmm 2 47).frames + 1 ≤ R.frames ∧ 8 + (4 + 11) + (rmm 2 47).locals ≤ R.locals) (hcs : cells ≤ R.cells ∧ slots ≤ R.slots) (hW : (rest.map fun v => v.category).sum ≤ 8) (k_o : jK o = 2) (r_a1 : jR a1) (k_a2 : jK a2 = 3) (h : w_X1_giveSum N M o a1 a2 k) (hdg : decode cc pc = .ok (.invokevirtual idx, 3)) (kk : ∀ (M' : jM) (H1 : Heap) (locs1 : List Loc), k M' → Hp G M' H0 H1 locs1 → W p l e R s m args below meth c H1 locs1 cells slots Q (F0 m (pc + 3) ls rest)) : W p l e R s m args below meth c H locs cells slots Q (F0 m pc ls (.ref (jD G a2) :: .int (jI a1) :: .ref (jD G o) :: rest)) :=
  jr_callV B (jr_runV (o := o) (As := [.int (jI a1), .ref (jD G a2)]) (n := 2) C hl B (m_X1_giveSum B.2.2 k_o r_a1 k_a2 h) (jE2 k_o) (by omega) rfl q1 q_357 q_358 q_359 q_3 ⟨by decide, by decide, by decide +kernel⟩ rfl ⟨rfl, rfl⟩ hR hcs rfl hW hdg) (fun M' H1 locs1 hk B1 => kk M' H1 locs1 hk B1)
def lp_X1_giveGreatest_24 (o : Int) (a1 : Int) (x1 : Int) (M2 : jM) (kx24 : Int → Prop) : Nat → Int → Int → Prop
  | 0, _, _ => False
  | n + 1, x6, x7 => (w_X1_subCount M2 o a1 x1 (fun x11 => (if x7 < x11 then (w_X1_numberOf M2 o a1 x1 x7 (fun x12 => (jL (jMax x6 x12) (fun x13 => (jL (jW (x7 + 1)) (fun x14 => (lp_X1_giveGreatest_24 o a1 x1 M2 kx24 n x13 x14))))))) else (kx24 x6))))
def lp_X1_giveGreatest_2 (N : Nat) (o : Int) (a1 : Int) (a2 : Int) (kx2 : jM → Prop) : Nat → Int → jM → Prop
  | 0, _, _ => False
  | n + 1, x1, M2 => (jB a1 4 ∧ (if x1 < (M2 (o + 1) a1) then (w_X1_numberOf M2 o a1 x1 0 (fun x5 => (lp_X1_giveGreatest_24 o a1 x1 M2 (fun (x8 : Int) => (w_X2_add M2 a2 x8 (fun M9 => (jL (jW (x1 + 1)) (fun x10 => (lp_X1_giveGreatest_2 N o a1 a2 kx2 n x10 M9)))))) N x5 1))) else (kx2 M2)))
def w_X1_giveGreatest (N : Nat) (M : jM) (o : Int) (a1 : Int) (a2 : Int) (k : jM → Prop) : Prop := (lp_X1_giveGreatest_2 N o a1 a2 (fun (M3 : jM) => (k M3)) N 0 M)
set_option maxHeartbeats 4000000 in
set_option maxRecDepth 100000 in
theorem m_X1_giveGreatest {l : Launch} {G : jG} {N : Nat} {M : jM} {o a1 a2 : Int} {k : jM → Prop} (o_M : jOK M) (k_o : jK o = 2) (r_a1 : jR a1) (k_a2 : jK a2 = 3) (h : w_X1_giveGreatest N M o a1 a2 k) : Met l yX1_giveGreatest (wsG yX1_giveGreatest cX1_giveGreatest 6 none) (rmm 1 40) (jPc G M [.ref (jD G o), .int (jI a1), .ref (jD G a2)]) (qV G k) 0 0 (gA G) := by
  refine jm_start RX1 rfl (by decide) (Nat.le_of_ble_eq_true rfl) o_M ?_
  intro p e s m args below meth c ls C hr hlocks hl B
  have hl : lv_has ls 6 [(0, .ref (jD G o)), (1, .int (jI a1)), (2, .ref (jD G a2))] := hl
  unfold w_X1_giveGreatest at h
  refine jr_iconst C dX1_giveGreatest_0 ?_
  refine lv_istore_n (lv' := [(3, .int (jI 0)), (0, .ref (jD G o)), (1, .int (jI a1)), (2, .ref (jD G a2))]) C.1 C.2.1 dX1_giveGreatest_1 rfl hl (by decide) rfl (fun ls hl => ?_)
  obtain ⟨kx2, hkx2, h⟩ : ∃ kx2 : jM → Prop, (∀ (M3 : jM) (H : Heap) (locs : List Loc) (ls : Array Slot), kx2 M3 → Hp G M3 s.heap H locs → lv_has ls 6 [] → W p l e (rmm 1 40) s m args below meth c H locs 0 0 (MQ below (qV G k) args s 0 0 (gA G)) (F0 m 68 ls [])) ∧ lp_X1_giveGreatest_2 N o a1 a2 kx2 N 0 M := by
    refine ⟨_, ?_, h⟩
    intro M3 H locs ls h  B hl
    have o_M3 := B.2.2
    exact jr_vret C B hr hlocks h dX1_giveGreatest_68
  have hL2 : ∀ (n : Nat) (x1 : Int) (M2 : jM) (H : Heap) (locs : List Loc) (ls : Array Slot), lp_X1_giveGreatest_2 N o a1 a2 kx2 n x1 M2 → jR x1 → Hp G M2 s.heap H locs → lv_has ls 6 [(3, .int (jI x1)), (0, .ref (jD G o)), (1, .int (jI a1)), (2, .ref (jD G a2))] → W p l e (rmm 1 40) s m args below meth c H locs 0 0 (MQ below (qV G k) args s 0 0 (gA G)) (F0 m 2 ls []) := by
    intro n
    induction n with
    | zero => intro x1 M2 H locs ls h; exact (show False from h).elim
    | succ n ih2 =>
      intro x1 M2 H locs ls h r_x1 B hl
      have o_M2 := B.2.2
      rw [lp_X1_giveGreatest_2] at h
      refine lv_iload_n C.1 C.2.1 dX1_giveGreatest_2 rfl (lv_at hl 0 rfl) ?_
      refine lv_aload_n C.1 C.2.1 dX1_giveGreatest_3 rfl (lv_at hl 1 rfl) ?_
      refine gf_X1_19 C B k_o dX1_giveGreatest_4 ?_
      refine lv_iload_n C.1 C.2.1 dX1_giveGreatest_7 rfl (lv_at hl 2 rfl) ?_
      obtain ⟨g4, h⟩ := h
      refine jr_iald C B 4 (jk1 (ko_X1_2 k_o) rfl) (jk2 (ko_X1_2 k_o) rfl) r_a1 g4 dX1_giveGreatest_8 ?_
      refine jr_icmp_ge (tgt := 68) C r_x1 (o_M2 (o + 1) a1).1 h dX1_giveGreatest_9 (by decide) (fun hc9 h => ?_) (fun hc9 h => ?_)
      · refine lv_aload_n C.1 C.2.1 dX1_giveGreatest_12 rfl (lv_at hl 1 rfl) ?_
        refine lv_iload_n C.1 C.2.1 dX1_giveGreatest_13 rfl (lv_at hl 2 rfl) ?_
        refine lv_iload_n C.1 C.2.1 dX1_giveGreatest_14 rfl (lv_at hl 0 rfl) ?_
        refine jr_iconst C dX1_giveGreatest_15 ?_
        refine cl_X1_numberOf C hl.1 B q_350 ⟨Nat.le_of_ble_eq_true rfl, Nat.le_of_ble_eq_true rfl⟩ ⟨Nat.zero_le _, Nat.zero_le _⟩ (Nat.le_of_ble_eq_true rfl) k_o r_a1 r_x1 (jkc rfl) h dX1_giveGreatest_16 (fun x5 r_x5 _ _ h B => ?_)
        refine lv_istore (lv' := [(4, .int (jI x5)), (3, .int (jI x1)), (0, .ref (jD G o)), (1, .int (jI a1)), (2, .ref (jD G a2))]) C.1 C.2.1 dX1_giveGreatest_19 hl (by decide) rfl (fun ls hl => ?_)
        refine jr_iconst C dX1_giveGreatest_21 ?_
        refine lv_istore (lv' := [(5, .int (jI 1)), (4, .int (jI x5)), (3, .int (jI x1)), (0, .ref (jD G o)), (1, .int (jI a1)), (2, .ref (jD G a2))]) C.1 C.2.1 dX1_giveGreatest_22 hl (by decide) rfl (fun ls hl => ?_)
        obtain ⟨kx24, hkx24, h⟩ : ∃ kx24 : Int → Prop, (∀ (x8 : Int) (H : Heap) (locs : List Loc) (ls : Array Slot), kx24 x8 → jR x8 → Hp G M2 s.heap H locs → lv_has ls 6 [(4, .int (jI x8)), (3, .int (jI x1)), (0, .ref (jD G o)), (1, .int (jI a1)), (2, .ref (jD G a2))] → W p l e (rmm 1 40) s m args below meth c H locs 0 0 (MQ below (qV G k) args s 0 0 (gA G)) (F0 m 56 ls [])) ∧ lp_X1_giveGreatest_24 o a1 x1 M2 kx24 N x5 1 := by
          refine ⟨_, ?_, h⟩
          intro x8 H locs ls h r_x8 B hl
          refine lv_aload_n C.1 C.2.1 dX1_giveGreatest_56 rfl (lv_at hl 4 rfl) ?_
          refine lv_iload C.1 C.2.1 dX1_giveGreatest_57 (lv_at hl 0 rfl) ?_
          refine cl_X2_add C hl.1 B q_351 ⟨Nat.le_of_ble_eq_true rfl, Nat.le_of_ble_eq_true rfl⟩ ⟨Nat.zero_le _, Nat.zero_le _⟩ (Nat.le_of_ble_eq_true rfl) k_a2 r_x8 h dX1_giveGreatest_59 (fun M9 _ _ h B => ?_)
          have o_M9 := B.2.2
          refine jr_iinc (k := 1) (lv' := fun x10 => [(3, .int (jI x10)), (4, .int (jI x8)), (0, .ref (jD G o)), (1, .int (jI a1)), (2, .ref (jD G a2))]) C h hl rfl (by decide) (fun _ => rfl) dX1_giveGreatest_62 (fun x10 h r_x10 ls hl => ?_)
          refine lv_goto (tgt := 2) C.1 C.2.1 dX1_giveGreatest_65 (by decide) ?_
          exact ih2 _ _ _ _ _ h r_x10 B (lv_sub hl [0, 2, 3, 4] rfl)
        have hL24 : ∀ (n : Nat) (x6 : Int) (x7 : Int) (H : Heap) (locs : List Loc) (ls : Array Slot), lp_X1_giveGreatest_24 o a1 x1 M2 kx24 n x6 x7 → jR x6 → jR x7 → Hp G M2 s.heap H locs → lv_has ls 6 [(4, .int (jI x6)), (5, .int (jI x7)), (3, .int (jI x1)), (0, .ref (jD G o)), (1, .int (jI a1)), (2, .ref (jD G a2))] → W p l e (rmm 1 40) s m args below meth c H locs 0 0 (MQ below (qV G k) args s 0 0 (gA G)) (F0 m 24 ls []) := by
          intro n
          induction n with
          | zero => intro x6 x7 H locs ls h; exact (show False from h).elim
          | succ n ih24 =>
            intro x6 x7 H locs ls h r_x6 r_x7 B hl
            rw [lp_X1_giveGreatest_24] at h
            refine lv_iload C.1 C.2.1 dX1_giveGreatest_24 (lv_at hl 1 rfl) ?_
            refine lv_aload_n C.1 C.2.1 dX1_giveGreatest_26 rfl (lv_at hl 3 rfl) ?_
            refine lv_iload_n C.1 C.2.1 dX1_giveGreatest_27 rfl (lv_at hl 4 rfl) ?_
            refine lv_iload_n C.1 C.2.1 dX1_giveGreatest_28 rfl (lv_at hl 2 rfl) ?_
            refine cl_X1_subCount C hl.1 B q_305 ⟨Nat.le_of_ble_eq_true rfl, Nat.le_of_ble_eq_true rfl⟩ ⟨Nat.zero_le _, Nat.zero_le _⟩ (Nat.le_of_ble_eq_true rfl) k_o r_a1 r_x1 h dX1_giveGreatest_29 (fun x11 r_x11 _ _ h B => ?_)
            refine jr_icmp_ge (tgt := 56) C r_x7 r_x11 h dX1_giveGreatest_32 (by decide) (fun hc32 h => ?_) (fun hc32 h => ?_)
            · refine lv_iload C.1 C.2.1 dX1_giveGreatest_35 (lv_at hl 0 rfl) ?_
              refine lv_aload_n C.1 C.2.1 dX1_giveGreatest_37 rfl (lv_at hl 3 rfl) ?_
              refine lv_iload_n C.1 C.2.1 dX1_giveGreatest_38 rfl (lv_at hl 4 rfl) ?_
              refine lv_iload_n C.1 C.2.1 dX1_giveGreatest_39 rfl (lv_at hl 2 rfl) ?_
              refine lv_iload C.1 C.2.1 dX1_giveGreatest_40 (lv_at hl 1 rfl) ?_
              refine cl_X1_numberOf C hl.1 B q_350 ⟨Nat.le_of_ble_eq_true rfl, Nat.le_of_ble_eq_true rfl⟩ ⟨Nat.zero_le _, Nat.zero_le _⟩ (Nat.le_of_ble_eq_true rfl) k_o r_a1 r_x1 r_x7 h dX1_giveGreatest_42 (fun x12 r_x12 _ _ h B => ?_)
              refine jr_mmax C hl.1 q_369 q_333 q_8 q_334 r_x6 r_x12 (Nat.le_of_ble_eq_true rfl) (Nat.le_of_ble_eq_true rfl) ⟨Nat.zero_le _, Nat.zero_le _⟩ dX1_giveGreatest_45 ?_
              refine jr_nm h (jMax_R r_x6 r_x12) (fun x13 h r_x13 => ?_)
              refine lv_istore (lv' := [(4, .int (jI x13)), (5, .int (jI x7)), (3, .int (jI x1)), (0, .ref (jD G o)), (1, .int (jI a1)), (2, .ref (jD G a2))]) C.1 C.2.1 dX1_giveGreatest_48 hl (by decide) rfl (fun ls hl => ?_)
              refine jr_iinc (k := 1) (lv' := fun x14 => [(5, .int (jI x14)), (4, .int (jI x13)), (3, .int (jI x1)), (0, .ref (jD G o)), (1, .int (jI a1)), (2, .ref (jD G a2))]) C h hl rfl (by decide) (fun _ => rfl) dX1_giveGreatest_50 (fun x14 h r_x14 ls hl => ?_)
              refine lv_goto (tgt := 24) C.1 C.2.1 dX1_giveGreatest_53 (by decide) ?_
              exact ih24 _ _ _ _ _ h r_x13 r_x14 B (lv_sub hl [1, 0, 2, 3, 4, 5] rfl)
            · exact hkx24 _ _ _ _ h r_x6 B (lv_sub hl [0, 2, 3, 4, 5] rfl)
        exact hL24 N _ _ _ _ _ h r_x5 (jkc rfl) B (lv_sub hl [1, 0, 2, 3, 4, 5] rfl)
      · exact hkx2 _ _ _ _ h  B (lv_sub hl [] rfl)
  exact hL2 N _ _ _ _ _ h (jkc rfl) B (lv_sub hl [0, 1, 2, 3] rfl)
theorem cl_X1_giveGreatest {p : Program} {l : Launch} {e : Env} {R : Room} {s : State} {m : MethodId} {args : Array Value} {below : List Frame} {meth : Method} {c : Code} {H : Heap} {locs : List Loc} {cells slots : Nat} {Q : State → Prop} {cc : ByteArray} {nL : Nat} {own : String} {G : jG} {H0 : Heap} {pc idx : Nat} {ls : Array Slot} {rest : List Value} {N : Nat} {M : jM} {o a1 a2 : Int} {k : jM → Prop} (C : Cx G p s args m c cc nL own) (hl : ls.size = nL) (B : Hp G M H0 H locs) (q1 : Cond.methodLink own idx yX1_giveGreatest ∈ tb) (hR : (rmm 1 40).frames + 1 ≤ R.frames ∧ 8 + (6 + 11) + (rmm 1 40).locals ≤ R.locals) (hcs : cells ≤ R.cells ∧ slots ≤ R.slots) (hW : (rest.map fun v => v.category).sum ≤ 8) (k_o : jK o = 2) (r_a1 : jR a1) (k_a2 : jK a2 = 3) (h : w_X1_giveGreatest N M o a1 a2 k) (hdg : decode cc pc = .ok (.invokevirtual idx, 3)) (kk : ∀ (M' : jM) (H1 : Heap) (locs1 : List Loc), k M' → Hp G M' H0 H1 locs1 → W p l e R s m args below meth c H1 locs1 cells slots Q (F0 m (pc + 3) ls rest)) : W p l e R s m args below meth c H locs cells slots Q (F0 m pc ls (.ref (jD G a2) :: .int (jI a1) :: .ref (jD G o) :: rest)) :=
  jr_callV B (jr_runV (o := o) (As := [.int (jI a1), .ref (jD G a2)]) (n := 2) C hl B (m_X1_giveGreatest B.2.2 k_o r_a1 k_a2 h) (jE2 k_o) (by omega) rfl q1 q_366 q_367 q_368 q_3 ⟨by decide, by decide, by decide +kernel⟩ rfl ⟨rfl, rfl⟩ hR hcs rfl hW hdg) (fun M' H1 locs1 hk B1 => kk M' H1 locs1 hk B1)
def lp_X1_giveProducts_20 (o : Int) (a1 : Int) (a2 : Int) (a3 : Int) (x3 : Int) (kx20 : jM → Prop) : Nat → Int → jM → Prop
  | 0, _, _ => False
  | n + 1, x4, M5 => (if x4 < x3 then (w_X1_numberOf M5 o a1 x4 0 (fun x7 => (w_X1_numberOf M5 o a2 x4 0 (fun x8 => (w_X2_add M5 a3 (jW (x7 * x8)) (fun M9 => (jL (jW (x4 + 1)) (fun x10 => (lp_X1_giveProducts_20 o a1 a2 a3 x3 kx20 n x10 M9))))))))) else (kx20 M5))
def w_X1_giveProducts (N : Nat) (M : jM) (o : Int) (a1 : Int) (a2 : Int) (a3 : Int) (k : jM → Prop) : Prop := (jB a1 4 ∧ (jB a2 4 ∧ (jL (jMin (M (o + 1) a1) (M (o + 1) a2)) (fun x3 => (lp_X1_giveProducts_20 o a1 a2 a3 x3 (fun (M6 : jM) => (k M6)) N 0 M)))))
set_option maxHeartbeats 4000000 in
set_option maxRecDepth 100000 in
theorem m_X1_giveProducts {l : Launch} {G : jG} {N : Nat} {M : jM} {o a1 a2 a3 : Int} {k : jM → Prop} (o_M : jOK M) (k_o : jK o = 2) (r_a1 : jR a1) (r_a2 : jR a2) (k_a3 : jK a3 = 3) (h : w_X1_giveProducts N M o a1 a2 a3 k) : Met l yX1_giveProducts (wsG yX1_giveProducts cX1_giveProducts 6 none) (rmm 1 40) (jPc G M [.ref (jD G o), .int (jI a1), .int (jI a2), .ref (jD G a3)]) (qV G k) 0 0 (gA G) := by
  refine jm_start RX1 rfl (by decide) (Nat.le_of_ble_eq_true rfl) o_M ?_
  intro p e s m args below meth c ls C hr hlocks hl B
  have hl : lv_has ls 6 [(0, .ref (jD G o)), (1, .int (jI a1)), (2, .int (jI a2)), (3, .ref (jD G a3))] := hl
  unfold w_X1_giveProducts at h
  refine lv_aload_n C.1 C.2.1 dX1_giveProducts_0 rfl (lv_at hl 0 rfl) ?_
  refine gf_X1_19 C B k_o dX1_giveProducts_1 ?_
  refine lv_iload_n C.1 C.2.1 dX1_giveProducts_4 rfl (lv_at hl 1 rfl) ?_
  obtain ⟨g1, h⟩ := h
  refine jr_iald C B 4 (jk1 (ko_X1_2 k_o) rfl) (jk2 (ko_X1_2 k_o) rfl) r_a1 g1 dX1_giveProducts_5 ?_
  refine lv_aload_n C.1 C.2.1 dX1_giveProducts_6 rfl (lv_at hl 0 rfl) ?_
  refine gf_X1_19 C B k_o dX1_giveProducts_7 ?_
  refine lv_iload_n C.1 C.2.1 dX1_giveProducts_10 rfl (lv_at hl 2 rfl) ?_
  obtain ⟨g2, h⟩ := h
  refine jr_iald C B 4 (jk1 (ko_X1_2 k_o) rfl) (jk2 (ko_X1_2 k_o) rfl) r_a2 g2 dX1_giveProducts_11 ?_
  refine jr_mmin C hl.1 q_374 q_375 q_8 q_376 (o_M (o + 1) a1).1 (o_M (o + 1) a2).1 (Nat.le_of_ble_eq_true rfl) (Nat.le_of_ble_eq_true rfl) ⟨Nat.zero_le _, Nat.zero_le _⟩ dX1_giveProducts_12 ?_
  refine jr_nm h (jMin_R (o_M (o + 1) a1).1 (o_M (o + 1) a2).1) (fun x3 h r_x3 => ?_)
  refine lv_istore (lv' := [(4, .int (jI x3)), (0, .ref (jD G o)), (1, .int (jI a1)), (2, .int (jI a2)), (3, .ref (jD G a3))]) C.1 C.2.1 dX1_giveProducts_15 hl (by decide) rfl (fun ls hl => ?_)
  refine jr_iconst C dX1_giveProducts_17 ?_
  refine lv_istore (lv' := [(5, .int (jI 0)), (4, .int (jI x3)), (0, .ref (jD G o)), (1, .int (jI a1)), (2, .int (jI a2)), (3, .ref (jD G a3))]) C.1 C.2.1 dX1_giveProducts_18 hl (by decide) rfl (fun ls hl => ?_)
  obtain ⟨kx20, hkx20, h⟩ : ∃ kx20 : jM → Prop, (∀ (M6 : jM) (H : Heap) (locs : List Loc) (ls : Array Slot), kx20 M6 → Hp G M6 s.heap H locs → lv_has ls 6 [] → W p l e (rmm 1 40) s m args below meth c H locs 0 0 (MQ below (qV G k) args s 0 0 (gA G)) (F0 m 54 ls [])) ∧ lp_X1_giveProducts_20 o a1 a2 a3 x3 kx20 N 0 M := by
    refine ⟨_, ?_, h⟩
    intro M6 H locs ls h  B hl
    have o_M6 := B.2.2
    exact jr_vret C B hr hlocks h dX1_giveProducts_54
  have hL20 : ∀ (n : Nat) (x4 : Int) (M5 : jM) (H : Heap) (locs : List Loc) (ls : Array Slot), lp_X1_giveProducts_20 o a1 a2 a3 x3 kx20 n x4 M5 → jR x4 → Hp G M5 s.heap H locs → lv_has ls 6 [(5, .int (jI x4)), (4, .int (jI x3)), (0, .ref (jD G o)), (1, .int (jI a1)), (2, .int (jI a2)), (3, .ref (jD G a3))] → W p l e (rmm 1 40) s m args below meth c H locs 0 0 (MQ below (qV G k) args s 0 0 (gA G)) (F0 m 20 ls []) := by
    intro n
    induction n with
    | zero => intro x4 M5 H locs ls h; exact (show False from h).elim
    | succ n ih20 =>
      intro x4 M5 H locs ls h r_x4 B hl
      have o_M5 := B.2.2
      rw [lp_X1_giveProducts_20] at h
      refine lv_iload C.1 C.2.1 dX1_giveProducts_20 (lv_at hl 0 rfl) ?_
      refine lv_iload C.1 C.2.1 dX1_giveProducts_22 (lv_at hl 1 rfl) ?_
      refine jr_icmp_ge (tgt := 54) C r_x4 r_x3 h dX1_giveProducts_24 (by decide) (fun hc24 h => ?_) (fun hc24 h => ?_)
      · refine lv_aload_n C.1 C.2.1 dX1_giveProducts_27 rfl (lv_at hl 5 rfl) ?_
        refine lv_aload_n C.1 C.2.1 dX1_giveProducts_28 rfl (lv_at hl 2 rfl) ?_
        refine lv_iload_n C.1 C.2.1 dX1_giveProducts_29 rfl (lv_at hl 3 rfl) ?_
        refine lv_iload C.1 C.2.1 dX1_giveProducts_30 (lv_at hl 0 rfl) ?_
        refine jr_iconst C dX1_giveProducts_32 ?_
        refine cl_X1_numberOf C hl.1 B q_350 ⟨Nat.le_of_ble_eq_true rfl, Nat.le_of_ble_eq_true rfl⟩ ⟨Nat.zero_le _, Nat.zero_le _⟩ (Nat.le_of_ble_eq_true rfl) k_o r_a1 r_x4 (jkc rfl) h dX1_giveProducts_33 (fun x7 r_x7 _ _ h B => ?_)
        refine lv_aload_n C.1 C.2.1 dX1_giveProducts_36 rfl (lv_at hl 2 rfl) ?_
        refine lv_iload_n C.1 C.2.1 dX1_giveProducts_37 rfl (lv_at hl 4 rfl) ?_
        refine lv_iload C.1 C.2.1 dX1_giveProducts_38 (lv_at hl 0 rfl) ?_
        refine jr_iconst C dX1_giveProducts_40 ?_
        refine cl_X1_numberOf C hl.1 B q_350 ⟨Nat.le_of_ble_eq_true rfl, Nat.le_of_ble_eq_true rfl⟩ ⟨Nat.zero_le _, Nat.zero_le _⟩ (Nat.le_of_ble_eq_true rfl) k_o r_a2 r_x4 (jkc rfl) h dX1_giveProducts_41 (fun x8 r_x8 _ _ h B => ?_)
        refine jr_imul C dX1_giveProducts_44 ?_
        refine cl_X2_add C hl.1 B q_351 ⟨Nat.le_of_ble_eq_true rfl, Nat.le_of_ble_eq_true rfl⟩ ⟨Nat.zero_le _, Nat.zero_le _⟩ (Nat.le_of_ble_eq_true rfl) k_a3 (jW_R _) h dX1_giveProducts_45 (fun M9 _ _ h B => ?_)
        have o_M9 := B.2.2
        refine jr_iinc (k := 0) (lv' := fun x10 => [(5, .int (jI x10)), (4, .int (jI x3)), (0, .ref (jD G o)), (1, .int (jI a1)), (2, .int (jI a2)), (3, .ref (jD G a3))]) C h hl rfl (by decide) (fun _ => rfl) dX1_giveProducts_48 (fun x10 h r_x10 ls hl => ?_)
        refine lv_goto (tgt := 20) C.1 C.2.1 dX1_giveProducts_51 (by decide) ?_
        exact ih20 _ _ _ _ _ h r_x10 B (lv_sub hl [0, 1, 2, 3, 4, 5] rfl)
      · exact hkx20 _ _ _ _ h  B (lv_sub hl [] rfl)
  exact hL20 N _ _ _ _ _ h (jkc rfl) B (lv_sub hl [0, 1, 2, 3, 4, 5] rfl)
theorem cl_X1_giveProducts {p : Program} {l : Launch} {e : Env} {R : Room} {s : State} {m : MethodId} {args : Array Value} {below : List Frame} {meth : Method} {c : Code} {H : Heap} {locs : List Loc} {cells slots : Nat} {Q : State → Prop} {cc : ByteArray} {nL : Nat} {own : String} {G : jG} {H0 : Heap} {pc idx : Nat} {ls : Array Slot} {rest : List Value} {N : Nat} {M : jM} {o a1 a2 a3 : Int} {k : jM → Prop} (C : Cx G p s args m c cc nL own) (hl : ls.size = nL) (B : Hp G M H0 H locs) (q1 : Cond.methodLink own idx yX1_giveProducts ∈ tb) (hR : (rmm 1 40).frames + 1 ≤ R.frames ∧ 8 + (6 + 11) + (rmm 1 40).locals ≤ R.locals) (hcs : cells ≤ R.cells ∧ slots ≤ R.slots) (hW : (rest.map fun v => v.category).sum ≤ 8) (k_o : jK o = 2) (r_a1 : jR a1) (r_a2 : jR a2) (k_a3 : jK a3 = 3) (h : w_X1_giveProducts N M o a1 a2 a3 k) (hdg : decode cc pc = .ok (.invokevirtual idx, 3)) (kk : ∀ (M' : jM) (H1 : Heap) (locs1 : List Loc), k M' → Hp G M' H0 H1 locs1 → W p l e R s m args below meth c H1 locs1 cells slots Q (F0 m (pc + 3) ls rest)) : W p l e R s m args below meth c H locs cells slots Q (F0 m pc ls (.ref (jD G a3) :: .int (jI a2) :: .int (jI a1) :: .ref (jD G o) :: rest)) :=
  jr_callV B (jr_runV (o := o) (As := [.int (jI a1), .int (jI a2), .ref (jD G a3)]) (n := 3) C hl B (m_X1_giveProducts B.2.2 k_o r_a1 r_a2 k_a3 h) (jE2 k_o) (by omega) rfl q1 q_371 q_372 q_373 q_3 ⟨by decide, by decide, by decide +kernel⟩ rfl ⟨rfl, rfl⟩ hR hcs rfl hW hdg) (fun M' H1 locs1 hk B1 => kk M' H1 locs1 hk B1)
def w_X2_at (M : jM) (o : Int) (a1 : Int) (k : Int → Prop) : Prop := (w_X6_isBelow a1 (M o 1) (fun x1 => (if x1 = 0 then (k 0) else (jB a1 20 ∧ (k (M (o + 1) a1))))))
set_option maxHeartbeats 4000000 in
set_option maxRecDepth 100000 in
theorem m_X2_at {l : Launch} {G : jG} {M : jM} {o a1 : Int} {k : Int → Prop} (o_M : jOK M) (k_o : jK o = 3) (r_a1 : jR a1) (h : w_X2_at M o a1 k) : Met l yX2_at (wsG yX2_at cX2_at 2 (some .int)) (rmm 1 21) (jPc G M [.ref (jD G o), .int (jI a1)]) (qI G (fun r M' => M' = M ∧ k r)) 0 0 (gA G) := by
  refine jm_start RX2 rfl (by decide) (Nat.le_of_ble_eq_true rfl) o_M ?_
  intro p e s m args below meth c ls C hr hlocks hl B
  have hl : lv_has ls 2 [(0, .ref (jD G o)), (1, .int (jI a1))] := hl
  unfold w_X2_at at h
  refine lv_iload_n C.1 C.2.1 dX2_at_0 rfl (lv_at hl 1 rfl) ?_
  refine lv_aload_n C.1 C.2.1 dX2_at_1 rfl (lv_at hl 0 rfl) ?_
  refine gf_X2_15 C B k_o dX2_at_2 ?_
  refine cn_X6_isBelow C hl.1 B C.2.2.2.2.2.2.2.2 ⟨Nat.le_of_ble_eq_true rfl, Nat.le_of_ble_eq_true rfl⟩ ⟨Nat.zero_le _, Nat.zero_le _⟩ (Nat.le_of_ble_eq_true rfl) r_a1 (o_M o 1).1 h dX2_at_5 (fun x1 z_x1 _ _ h B => ?_)
  refine jr_if_eq (tgt := 20) C (zR z_x1) h dX2_at_8 (by decide) (fun hc8 h => ?_) (fun hc8 h => ?_)
  · refine jr_iconst C dX2_at_20 ?_
    exact jr_iret C B hr hlocks (jkc rfl) ⟨rfl, h⟩ dX2_at_21
  · refine lv_aload_n C.1 C.2.1 dX2_at_11 rfl (lv_at hl 0 rfl) ?_
    refine gf_X2_9 C B k_o dX2_at_12 ?_
    refine lv_iload_n C.1 C.2.1 dX2_at_15 rfl (lv_at hl 1 rfl) ?_
    obtain ⟨g2, h⟩ := h
    refine jr_iald C B 20 (jk1 (ko_X2_0 k_o) rfl) (jk2 (ko_X2_0 k_o) rfl) r_a1 g2 dX2_at_16 ?_
    refine lv_goto (tgt := 21) C.1 C.2.1 dX2_at_17 (by decide) ?_
    exact jr_iret C B hr hlocks (o_M (o + 1) a1).1 ⟨rfl, h⟩ dX2_at_21
theorem cl_X2_at {p : Program} {l : Launch} {e : Env} {R : Room} {s : State} {m : MethodId} {args : Array Value} {below : List Frame} {meth : Method} {c : Code} {H : Heap} {locs : List Loc} {cells slots : Nat} {Q : State → Prop} {cc : ByteArray} {nL : Nat} {own : String} {G : jG} {H0 : Heap} {pc idx : Nat} {ls : Array Slot} {rest : List Value} {M : jM} {o a1 : Int} {k : Int → Prop} (C : Cx G p s args m c cc nL own) (hl : ls.size = nL) (B : Hp G M H0 H locs) (q1 : Cond.methodLink own idx yX2_at ∈ tb) (hR : (rmm 1 21).frames + 1 ≤ R.frames ∧ 8 + (2 + 11) + (rmm 1 21).locals ≤ R.locals) (hcs : cells ≤ R.cells ∧ slots ≤ R.slots) (hW : (rest.map fun v => v.category).sum ≤ 8) (k_o : jK o = 3) (r_a1 : jR a1) (h : w_X2_at M o a1 k) (hdg : decode cc pc = .ok (.invokevirtual idx, 3)) (kk : ∀ (r : Int), jR r → ∀ (H1 : Heap) (locs1 : List Loc), k r → Hp G M H0 H1 locs1 → W p l e R s m args below meth c H1 locs1 cells slots Q (F0 m (pc + 3) ls (.int (jI r) :: rest))) : W p l e R s m args below meth c H locs cells slots Q (F0 m pc ls (.int (jI a1) :: .ref (jD G o) :: rest)) :=
  jr_callI B (jr_runV (o := o) (As := [.int (jI a1)]) (n := 1) C hl B (m_X2_at B.2.2 k_o r_a1 h) (jE3 k_o) (by omega) rfl q1 q_378 q_379 q_380 q_6 ⟨by decide, by decide, by decide +kernel⟩ rfl ⟨rfl, rfl⟩ hR hcs rfl hW hdg) (fun r M' H1 locs1 hr hk B1 => by obtain ⟨rfl, hk⟩ := hk; exact kk r hr H1 locs1 hk B1)
def w_X3_put (M : jM) (o : Int) (a1 : Int) (k : jM → Prop) : Prop := (if (M o 1) < (jK (o + 1) % 10000) then (jB (M o 1) (jK (o + 1) % 10000) ∧ jL (jU M (o + 1) (M o 1) (jChr a1)) (fun M1 => (jL (jU M1 o 1 (jW ((M1 o 1) + 1))) (fun M2 => (k M2))))) else (k M))
set_option maxHeartbeats 4000000 in
set_option maxRecDepth 100000 in
theorem m_X3_put {l : Launch} {G : jG} {M : jM} {o a1 : Int} {k : jM → Prop} (o_M : jOK M) (k_o : jK o = 4) (r_a1 : jR a1) (h : w_X3_put M o a1 k) : Met l yX3_put (wsG yX3_put cX3_put 2 none) (rmm 0 0) (jPc G M [.ref (jD G o), .int (jI a1)]) (qV G k) 0 0 (gA G) := by
  refine jm_start RX3 rfl (by decide) (Nat.le_of_ble_eq_true rfl) o_M ?_
  intro p e s m args below meth c ls C hr hlocks hl B
  have hl : lv_has ls 2 [(0, .ref (jD G o)), (1, .int (jI a1))] := hl
  unfold w_X3_put at h
  refine lv_aload_n C.1 C.2.1 dX3_put_0 rfl (lv_at hl 0 rfl) ?_
  refine gf_X3_13 C B k_o dX3_put_1 ?_
  refine lv_aload_n C.1 C.2.1 dX3_put_4 rfl (lv_at hl 0 rfl) ?_
  refine gf_X3_7 C B k_o dX3_put_5 ?_
  refine jr_calen C B (ko_X3_0 k_o) dX3_put_8 ?_
  refine jr_icmp_ge (tgt := 33) C (o_M o 1).1 (jmod_R _) h dX3_put_9 (by decide) (fun hc9 h => ?_) (fun hc9 h => ?_)
  · refine lv_aload_n C.1 C.2.1 dX3_put_12 rfl (lv_at hl 0 rfl) ?_
    refine gf_X3_7 C B k_o dX3_put_13 ?_
    refine lv_aload_n C.1 C.2.1 dX3_put_16 rfl (lv_at hl 0 rfl) ?_
    refine gf_X3_13 C B k_o dX3_put_17 ?_
    refine lv_iload_n C.1 C.2.1 dX3_put_20 rfl (lv_at hl 1 rfl) ?_
    refine jr_i2c C dX3_put_21 ?_
    refine jr_cast C B (ko_X3_0 k_o) (o_M o 1).1 (jChr_b _) h dX3_put_22 (fun M1 _ _ h B => ?_)
    have o_M1 := B.2.2
    refine lv_aload_n C.1 C.2.1 dX3_put_23 rfl (lv_at hl 0 rfl) ?_
    refine lv_dup C.1 C.2.1 dX3_put_24 rfl ?_
    refine gf_X3_13 C B k_o dX3_put_25 ?_
    refine jr_iconst C dX3_put_28 ?_
    refine jr_iadd C dX3_put_29 ?_
    refine pf_X3_13 C B k_o (jW_R _) h dX3_put_30 (fun M2 _ _ h B => ?_)
    have o_M2 := B.2.2
    exact jr_vret C B hr hlocks h dX3_put_33
  · exact jr_vret C B hr hlocks h dX3_put_33
theorem cl_X3_put {p : Program} {l : Launch} {e : Env} {R : Room} {s : State} {m : MethodId} {args : Array Value} {below : List Frame} {meth : Method} {c : Code} {H : Heap} {locs : List Loc} {cells slots : Nat} {Q : State → Prop} {cc : ByteArray} {nL : Nat} {own : String} {G : jG} {H0 : Heap} {pc idx : Nat} {ls : Array Slot} {rest : List Value} {M : jM} {o a1 : Int} {k : jM → Prop} (C : Cx G p s args m c cc nL own) (hl : ls.size = nL) (B : Hp G M H0 H locs) (q1 : Cond.methodLink own idx yX3_put ∈ tb) (hR : (rmm 0 0).frames + 1 ≤ R.frames ∧ 8 + (2 + 11) + (rmm 0 0).locals ≤ R.locals) (hcs : cells ≤ R.cells ∧ slots ≤ R.slots) (hW : (rest.map fun v => v.category).sum ≤ 8) (k_o : jK o = 4) (r_a1 : jR a1) (h : w_X3_put M o a1 k) (hdg : decode cc pc = .ok (.invokevirtual idx, 3)) (kk : ∀ (M' : jM) (H1 : Heap) (locs1 : List Loc), k M' → Hp G M' H0 H1 locs1 → W p l e R s m args below meth c H1 locs1 cells slots Q (F0 m (pc + 3) ls rest)) : W p l e R s m args below meth c H locs cells slots Q (F0 m pc ls (.int (jI a1) :: .ref (jD G o) :: rest)) :=
  jr_callV B (jr_runV (o := o) (As := [.int (jI a1)]) (n := 1) C hl B (m_X3_put B.2.2 k_o r_a1 h) (jE4 k_o) (by omega) rfl q1 q_549 q_550 q_551 q_4 ⟨by decide, by decide, by decide +kernel⟩ rfl ⟨rfl, rfl⟩ hR hcs rfl hW hdg) (fun M' H1 locs1 hk B1 => kk M' H1 locs1 hk B1)
def w_X3_putNumber (M : jM) (o : Int) (a1 : Int) (k : jM → Prop) : Prop := (jL (jAbs a1) (fun x1 => (jL (fun (M3 : jM) => (jL (fun (M5 : jM) => (if x1 < 10 then (w_X3_put M5 o (jW (48 + (jRem x1 10))) (fun M6 => (k M6))) else (w_X3_put M5 o (jW (48 + (jRem (jDiv x1 10) 10))) (fun M7 => (w_X3_put M7 o (jW (48 + (jRem x1 10))) (fun M8 => (k M8))))))) (fun j18_4 => (if x1 < 100 then (j18_4 M3) else (w_X3_put M3 o (jW (48 + (jDiv x1 100))) (fun M9 => (j18_4 M9))))))) (fun j6_2 => (if a1 < 0 then (w_X3_put M o 45 (fun M10 => (j6_2 M10))) else (j6_2 M))))))
set_option maxHeartbeats 4000000 in
set_option maxRecDepth 100000 in
theorem m_X3_putNumber {l : Launch} {G : jG} {M : jM} {o a1 : Int} {k : jM → Prop} (o_M : jOK M) (k_o : jK o = 4) (r_a1 : jR a1) (h : w_X3_putNumber M o a1 k) : Met l yX3_putNumber (wsG yX3_putNumber cX3_putNumber 3 none) (rmm 1 40) (jPc G M [.ref (jD G o), .int (jI a1)]) (qV G k) 0 0 (gA G) := by
  refine jm_start RX3 rfl (by decide) (Nat.le_of_ble_eq_true rfl) o_M ?_
  intro p e s m args below meth c ls C hr hlocks hl B
  have hl : lv_has ls 3 [(0, .ref (jD G o)), (1, .int (jI a1))] := hl
  unfold w_X3_putNumber at h
  refine lv_iload_n C.1 C.2.1 dX3_putNumber_0 rfl (lv_at hl 1 rfl) ?_
  refine jr_mabs C hl.1 q_644 q_578 q_8 q_579 r_a1 (Nat.le_of_ble_eq_true rfl) (Nat.le_of_ble_eq_true rfl) ⟨Nat.zero_le _, Nat.zero_le _⟩ dX3_putNumber_1 ?_
  refine jr_nm h (jAbs_R r_a1) (fun x1 h r_x1 => ?_)
  refine lv_istore_n (lv' := [(2, .int (jI x1)), (0, .ref (jD G o)), (1, .int (jI a1))]) C.1 C.2.1 dX3_putNumber_4 rfl hl (by decide) rfl (fun ls hl => ?_)
  refine lv_iload_n C.1 C.2.1 dX3_putNumber_5 rfl (lv_at hl 2 rfl) ?_
  obtain ⟨j6_2, hj6_2, h⟩ := jx_join (P := fun j6_2 : jM → Prop => ∀ (M3 : jM) (H : Heap) (locs : List Loc) (ls : Array Slot), j6_2 M3 → Hp G M3 s.heap H locs → lv_has ls 3 [(2, .int (jI x1)), (0, .ref (jD G o))] → W p l e (rmm 1 40) s m args below meth c H locs 0 0 (MQ below (qV G k) args s 0 0 (gA G)) (F0 m 15 ls [])) h (by
    intro M3 H locs ls h  B hl
    have o_M3 := B.2.2
    refine lv_iload_n C.1 C.2.1 dX3_putNumber_15 rfl (lv_at hl 0 rfl) ?_
    refine jr_bipush C dX3_putNumber_16 (by decide) ?_
    obtain ⟨j18_4, hj18_4, h⟩ := jx_join (P := fun j18_4 : jM → Prop => ∀ (M5 : jM) (H : Heap) (locs : List Loc) (ls : Array Slot), j18_4 M5 → Hp G M5 s.heap H locs → lv_has ls 3 [(2, .int (jI x1)), (0, .ref (jD G o))] → W p l e (rmm 1 40) s m args below meth c H locs 0 0 (MQ below (qV G k) args s 0 0 (gA G)) (F0 m 32 ls [])) h (by
      intro M5 H locs ls h  B hl
      have o_M5 := B.2.2
      refine lv_iload_n C.1 C.2.1 dX3_putNumber_32 rfl (lv_at hl 0 rfl) ?_
      refine jr_bipush C dX3_putNumber_33 (by decide) ?_
      refine jr_icmp_lt (tgt := 52) C r_x1 (jkc rfl) h dX3_putNumber_35 (by decide) (fun hc35 h => ?_) (fun hc35 h => ?_)
      · refine lv_aload_n C.1 C.2.1 dX3_putNumber_52 rfl (lv_at hl 1 rfl) ?_
        refine jr_bipush C dX3_putNumber_53 (by decide) ?_
        refine lv_iload_n C.1 C.2.1 dX3_putNumber_55 rfl (lv_at hl 0 rfl) ?_
        refine jr_bipush C dX3_putNumber_56 (by decide) ?_
        refine jr_irem C (by decide) dX3_putNumber_58 ?_
        refine jr_iadd C dX3_putNumber_59 ?_
        refine cl_X3_put C hl.1 B q_645 ⟨Nat.le_of_ble_eq_true rfl, Nat.le_of_ble_eq_true rfl⟩ ⟨Nat.zero_le _, Nat.zero_le _⟩ (Nat.le_of_ble_eq_true rfl) k_o (jW_R _) h dX3_putNumber_60 (fun M6 _ _ h B => ?_)
        have o_M6 := B.2.2
        exact jr_vret C B hr hlocks h dX3_putNumber_63
      · refine lv_aload_n C.1 C.2.1 dX3_putNumber_38 rfl (lv_at hl 1 rfl) ?_
        refine jr_bipush C dX3_putNumber_39 (by decide) ?_
        refine lv_iload_n C.1 C.2.1 dX3_putNumber_41 rfl (lv_at hl 0 rfl) ?_
        refine jr_bipush C dX3_putNumber_42 (by decide) ?_
        refine jr_idiv C (by decide) dX3_putNumber_44 ?_
        refine jr_bipush C dX3_putNumber_45 (by decide) ?_
        refine jr_irem C (by decide) dX3_putNumber_47 ?_
        refine jr_iadd C dX3_putNumber_48 ?_
        refine cl_X3_put C hl.1 B q_645 ⟨Nat.le_of_ble_eq_true rfl, Nat.le_of_ble_eq_true rfl⟩ ⟨Nat.zero_le _, Nat.zero_le _⟩ (Nat.le_of_ble_eq_true rfl) k_o (jW_R _) h dX3_putNumber_49 (fun M7 _ _ h B => ?_)
        have o_M7 := B.2.2
        refine lv_aload_n C.1 C.2.1 dX3_putNumber_52 rfl (lv_at hl 1 rfl) ?_
        refine jr_bipush C dX3_putNumber_53 (by decide) ?_
        refine lv_iload_n C.1 C.2.1 dX3_putNumber_55 rfl (lv_at hl 0 rfl) ?_
        refine jr_bipush C dX3_putNumber_56 (by decide) ?_
        refine jr_irem C (by decide) dX3_putNumber_58 ?_
        refine jr_iadd C dX3_putNumber_59 ?_
        refine cl_X3_put C hl.1 B q_645 ⟨Nat.le_of_ble_eq_true rfl, Nat.le_of_ble_eq_true rfl⟩ ⟨Nat.zero_le _, Nat.zero_le _⟩ (Nat.le_of_ble_eq_true rfl) k_o (jW_R _) h dX3_putNumber_60 (fun M8 _ _ h B => ?_)
        have o_M8 := B.2.2
        exact jr_vret C B hr hlocks h dX3_putNumber_63)
    refine jr_icmp_lt (tgt := 32) C r_x1 (jkc rfl) h dX3_putNumber_18 (by decide) (fun hc18 h => ?_) (fun hc18 h => ?_)
    · exact hj18_4 _ _ _ _ h  B (lv_sub hl [0, 1] rfl)
    · refine lv_aload_n C.1 C.2.1 dX3_putNumber_21 rfl (lv_at hl 1 rfl) ?_
      refine jr_bipush C dX3_putNumber_22 (by decide) ?_
      refine lv_iload_n C.1 C.2.1 dX3_putNumber_24 rfl (lv_at hl 0 rfl) ?_
      refine jr_bipush C dX3_putNumber_25 (by decide) ?_
      refine jr_idiv C (by decide) dX3_putNumber_27 ?_
      refine jr_iadd C dX3_putNumber_28 ?_
      refine cl_X3_put C hl.1 B q_645 ⟨Nat.le_of_ble_eq_true rfl, Nat.le_of_ble_eq_true rfl⟩ ⟨Nat.zero_le _, Nat.zero_le _⟩ (Nat.le_of_ble_eq_true rfl) k_o (jW_R _) h dX3_putNumber_29 (fun M9 _ _ h B => ?_)
      have o_M9 := B.2.2
      exact hj18_4 _ _ _ _ h  B (lv_sub hl [0, 1] rfl))
  refine jr_if_ge (tgt := 15) C r_a1 h dX3_putNumber_6 (by decide) (fun hc6 h => ?_) (fun hc6 h => ?_)
  · refine lv_aload_n C.1 C.2.1 dX3_putNumber_9 rfl (lv_at hl 1 rfl) ?_
    refine jr_bipush C dX3_putNumber_10 (by decide) ?_
    refine cl_X3_put C hl.1 B q_645 ⟨Nat.le_of_ble_eq_true rfl, Nat.le_of_ble_eq_true rfl⟩ ⟨Nat.zero_le _, Nat.zero_le _⟩ (Nat.le_of_ble_eq_true rfl) k_o (jkc rfl) h dX3_putNumber_12 (fun M10 _ _ h B => ?_)
    have o_M10 := B.2.2
    exact hj6_2 _ _ _ _ h  B (lv_sub hl [0, 1] rfl)
  · exact hj6_2 _ _ _ _ h  B (lv_sub hl [0, 1] rfl)
theorem cl_X3_putNumber {p : Program} {l : Launch} {e : Env} {R : Room} {s : State} {m : MethodId} {args : Array Value} {below : List Frame} {meth : Method} {c : Code} {H : Heap} {locs : List Loc} {cells slots : Nat} {Q : State → Prop} {cc : ByteArray} {nL : Nat} {own : String} {G : jG} {H0 : Heap} {pc idx : Nat} {ls : Array Slot} {rest : List Value} {M : jM} {o a1 : Int} {k : jM → Prop} (C : Cx G p s args m c cc nL own) (hl : ls.size = nL) (B : Hp G M H0 H locs) (q1 : Cond.methodLink own idx yX3_putNumber ∈ tb) (hR : (rmm 1 40).frames + 1 ≤ R.frames ∧ 8 + (3 + 11) + (rmm 1 40).locals ≤ R.locals) (hcs : cells ≤ R.cells ∧ slots ≤ R.slots) (hW : (rest.map fun v => v.category).sum ≤ 8) (k_o : jK o = 4) (r_a1 : jR a1) (h : w_X3_putNumber M o a1 k) (hdg : decode cc pc = .ok (.invokevirtual idx, 3)) (kk : ∀ (M' : jM) (H1 : Heap) (locs1 : List Loc), k M' → Hp G M' H0 H1 locs1 → W p l e R s m args below meth c H1 locs1 cells slots Q (F0 m (pc + 3) ls rest)) : W p l e R s m args below meth c H locs cells slots Q (F0 m pc ls (.int (jI a1) :: .ref (jD G o) :: rest)) :=
  jr_callV B (jr_runV (o := o) (As := [.int (jI a1)]) (n := 1) C hl B (m_X3_putNumber B.2.2 k_o r_a1 h) (jE4 k_o) (by omega) rfl q1 q_641 q_642 q_643 q_4 ⟨by decide, by decide, by decide +kernel⟩ rfl ⟨rfl, rfl⟩ hR hcs rfl hW hdg) (fun M' H1 locs1 hk B1 => kk M' H1 locs1 hk B1)
def w_X3_at (M : jM) (o : Int) (a1 : Int) (k : Int → Prop) : Prop := (w_X6_isBelow a1 (M o 1) (fun x1 => (if x1 = 0 then (k 0) else (jB a1 (jK (o + 1) % 10000) ∧ (k (M (o + 1) a1))))))
set_option maxHeartbeats 4000000 in
set_option maxRecDepth 100000 in
theorem m_X3_at {l : Launch} {G : jG} {M : jM} {o a1 : Int} {k : Int → Prop} (o_M : jOK M) (k_o : jK o = 4) (r_a1 : jR a1) (h : w_X3_at M o a1 k) : Met l yX3_at (wsG yX3_at cX3_at 2 (some .int)) (rmm 1 21) (jPc G M [.ref (jD G o), .int (jI a1)]) (qI G (fun r M' => M' = M ∧ k r)) 0 0 (gA G) := by
  refine jm_start RX3 rfl (by decide) (Nat.le_of_ble_eq_true rfl) o_M ?_
  intro p e s m args below meth c ls C hr hlocks hl B
  have hl : lv_has ls 2 [(0, .ref (jD G o)), (1, .int (jI a1))] := hl
  unfold w_X3_at at h
  refine lv_iload_n C.1 C.2.1 dX3_at_0 rfl (lv_at hl 1 rfl) ?_
  refine lv_aload_n C.1 C.2.1 dX3_at_1 rfl (lv_at hl 0 rfl) ?_
  refine gf_X3_13 C B k_o dX3_at_2 ?_
  refine cn_X6_isBelow C hl.1 B C.2.2.2.2.2.2.2.1 ⟨Nat.le_of_ble_eq_true rfl, Nat.le_of_ble_eq_true rfl⟩ ⟨Nat.zero_le _, Nat.zero_le _⟩ (Nat.le_of_ble_eq_true rfl) r_a1 (o_M o 1).1 h dX3_at_5 (fun x1 z_x1 _ _ h B => ?_)
  refine jr_if_eq (tgt := 20) C (zR z_x1) h dX3_at_8 (by decide) (fun hc8 h => ?_) (fun hc8 h => ?_)
  · refine jr_iconst C dX3_at_20 ?_
    exact jr_iret C B hr hlocks (jkc rfl) ⟨rfl, h⟩ dX3_at_21
  · refine lv_aload_n C.1 C.2.1 dX3_at_11 rfl (lv_at hl 0 rfl) ?_
    refine gf_X3_7 C B k_o dX3_at_12 ?_
    refine lv_iload_n C.1 C.2.1 dX3_at_15 rfl (lv_at hl 1 rfl) ?_
    obtain ⟨g2, h⟩ := h
    refine jr_cald C B (ko_X3_0 k_o) r_a1 g2 dX3_at_16 ?_
    refine lv_goto (tgt := 21) C.1 C.2.1 dX3_at_17 (by decide) ?_
    exact jr_iret C B hr hlocks (o_M (o + 1) a1).1 ⟨rfl, h⟩ dX3_at_21
theorem cl_X3_at {p : Program} {l : Launch} {e : Env} {R : Room} {s : State} {m : MethodId} {args : Array Value} {below : List Frame} {meth : Method} {c : Code} {H : Heap} {locs : List Loc} {cells slots : Nat} {Q : State → Prop} {cc : ByteArray} {nL : Nat} {own : String} {G : jG} {H0 : Heap} {pc idx : Nat} {ls : Array Slot} {rest : List Value} {M : jM} {o a1 : Int} {k : Int → Prop} (C : Cx G p s args m c cc nL own) (hl : ls.size = nL) (B : Hp G M H0 H locs) (q1 : Cond.methodLink own idx yX3_at ∈ tb) (hR : (rmm 1 21).frames + 1 ≤ R.frames ∧ 8 + (2 + 11) + (rmm 1 21).locals ≤ R.locals) (hcs : cells ≤ R.cells ∧ slots ≤ R.slots) (hW : (rest.map fun v => v.category).sum ≤ 8) (k_o : jK o = 4) (r_a1 : jR a1) (h : w_X3_at M o a1 k) (hdg : decode cc pc = .ok (.invokevirtual idx, 3)) (kk : ∀ (r : Int), jR r → ∀ (H1 : Heap) (locs1 : List Loc), k r → Hp G M H0 H1 locs1 → W p l e R s m args below meth c H1 locs1 cells slots Q (F0 m (pc + 3) ls (.int (jI r) :: rest))) : W p l e R s m args below meth c H locs cells slots Q (F0 m pc ls (.int (jI a1) :: .ref (jD G o) :: rest)) :=
  jr_callI B (jr_runV (o := o) (As := [.int (jI a1)]) (n := 1) C hl B (m_X3_at B.2.2 k_o r_a1 h) (jE4 k_o) (by omega) rfl q1 q_565 q_566 q_567 q_4 ⟨by decide, by decide, by decide +kernel⟩ rfl ⟨rfl, rfl⟩ hR hcs rfl hW hdg) (fun r M' H1 locs1 hr hk B1 => by obtain ⟨rfl, hk⟩ := hk; exact kk r hr H1 locs1 hk B1)
