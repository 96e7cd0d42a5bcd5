def w_X6_mean (N : Nat) (M : jM) (o : Int) (a1 : Int) (k : UInt32 → jM → Prop) : Prop := (w_X6_isBelow a1 6 (fun x1 => (if x1 = 0 then (k 3388220416 M) else (w_X6_entryCount N M o a1 (fun x2 M3 => (if x2 = 0 then (k FP.fconst0 M3) else (w_X6_sumOf N M3 o a1 (-1) (fun x4 M5 => (∀ f6 : UInt32, alike32 f6 (FP.fdiv (FP.i2f (jI x4)) (FP.i2f (jI x2))) = true → (k f6 M5))))))))))
set_option maxHeartbeats 4000000 in
set_option maxRecDepth 100000 in
theorem m_X6_mean {l : Launch} {G : jG} {N : Nat} {M : jM} {o a1 : Int} {k : UInt32 → jM → Prop} (o_M : jOK M) (k_o : jK o = 7) (r_a1 : jR a1) (h : w_X6_mean N M o a1 k) : MetD lw_cs l yX6_mean (wsG yX6_mean cX6_mean 3 (some .float)) (rmm 5 118) (jPc G M [.ref (jD G o), .int (jI a1)]) (qF G k) 0 0 (gA G) := by
  refine jm_startD RX6 rfl (by decide) (Nat.le_of_ble_eq_true rfl) o_M ?_
  intro p e s m args below meth c ls C hr hlocks hl B hd
  have hl : lv_has ls 3 [(0, .ref (jD G o)), (1, .int (jI a1))] := hl
  unfold w_X6_mean at h
  refine lv_iload_n C.1 C.2.1 dX6_mean_0 rfl (lv_at hl 1 rfl) ?_
  refine jr_bipush C dX6_mean_1 (by decide) ?_
  refine cl_X6_isBelow C hl.1 B q_200 ⟨Nat.le_of_ble_eq_true rfl, Nat.le_of_ble_eq_true rfl⟩ ⟨Nat.zero_le _, Nat.zero_le _⟩ (Nat.le_of_ble_eq_true rfl) r_a1 (jkc rfl) h dX6_mean_3 (fun x1 z_x1 _ _ h B => ?_)
  refine jr_if_ne (tgt := 13) C (zR z_x1) h dX6_mean_6 (by decide) (fun hc6 h => ?_) (fun hc6 h => ?_)
  · refine jr_ldcwf C q_673 dX6_mean_9 ?_
    refine W.endD hd ?_
    exact jr_fret C B hr hlocks h dX6_mean_12
  · refine lv_aload_n C.1 C.2.1 dX6_mean_13 rfl (lv_at hl 0 rfl) ?_
    refine lv_iload_n C.1 C.2.1 dX6_mean_14 rfl (lv_at hl 1 rfl) ?_
    refine cl_X6_entryCount C hl.1 B q_632 ⟨Nat.le_of_ble_eq_true rfl, Nat.le_of_ble_eq_true rfl⟩ ⟨Nat.zero_le _, Nat.zero_le _⟩ (Nat.le_of_ble_eq_true rfl) k_o r_a1 h dX6_mean_15 (fun x2 M3 r_x2 _ _ h B => ?_)
    have o_M3 := B.2.2
    refine lv_istore_n (lv' := [(2, .int (jI x2)), (0, .ref (jD G o)), (1, .int (jI a1))]) C.1 C.2.1 dX6_mean_18 rfl hl (by decide) rfl (fun ls hl => ?_)
    refine lv_iload_n C.1 C.2.1 dX6_mean_19 rfl (lv_at hl 0 rfl) ?_
    refine jr_if_ne (tgt := 25) C r_x2 h dX6_mean_20 (by decide) (fun hc20 h => ?_) (fun hc20 h => ?_)
    · refine lv_fconst0 C.1 C.2.1 dX6_mean_23 ?_
      refine W.endD hd ?_
      exact jr_fret C B hr hlocks h dX6_mean_24
    · refine lv_aload_n C.1 C.2.1 dX6_mean_25 rfl (lv_at hl 1 rfl) ?_
      refine lv_iload_n C.1 C.2.1 dX6_mean_26 rfl (lv_at hl 2 rfl) ?_
      refine jr_iconst C dX6_mean_27 ?_
      refine cl_X6_sumOf C hl.1 B q_664 ⟨Nat.le_of_ble_eq_true rfl, Nat.le_of_ble_eq_true rfl⟩ ⟨Nat.zero_le _, Nat.zero_le _⟩ (Nat.le_of_ble_eq_true rfl) k_o r_a1 (jkc rfl) h dX6_mean_28 (fun x4 M5 r_x4 _ _ h B => ?_)
      have o_M5 := B.2.2
      refine lv_i2f C.1 C.2.1 dX6_mean_31 ?_
      refine lv_iload_n C.1 C.2.1 dX6_mean_32 rfl (lv_at hl 0 rfl) ?_
      refine lv_i2f C.1 C.2.1 dX6_mean_33 ?_
      refine lv_fdiv_any hd lw_bits C.1 C.2.1 dX6_mean_34 (fun f6 dd7 ha hd => ?_)
      have h := h f6 ha
      have C := C.redraw dd7
      refine W.endD hd ?_
      exact jr_fret C B hr hlocks h dX6_mean_35
theorem cl_X6_mean {p : Program} {l : Launch} {e : Env} {R : Room} {s : State} {m : MethodId} {args : Array Value} {below : List Frame} {meth : Method} {c : Code} {H : Heap} {locs : List Loc} {cells slots : Nat} {Q : State → Prop} {cc : ByteArray} {nL : Nat} {own : String} {G : jG} {H0 : Heap} {pc idx : Nat} {ls : Array Slot} {rest : List Value} {N : Nat} {M : jM} {o a1 : Int} {k : UInt32 → jM → Prop} {d0 : Drawn} (hd : s.drawn.sameBut d0 lw_cs) (C : Cx G p (s.setDrawn d0) args m c cc nL own) (hl : ls.size = nL) (B : Hp G M H0 H locs) (q1 : Cond.methodLink own idx yX6_mean ∈ tb) (hR : (rmm 5 118).frames + 1 ≤ R.frames ∧ 8 + (3 + 11) + (rmm 5 118).locals ≤ R.locals) (hcs : cells ≤ R.cells ∧ slots ≤ R.slots) (hW : (rest.map fun v => v.category).sum ≤ 8) (k_o : jK o = 7) (r_a1 : jR a1) (h : w_X6_mean N M o a1 k) (hdg : decode cc pc = .ok (.invokevirtual idx, 3)) (kk : ∀ (r : UInt32) (M' : jM) (d1 : Drawn) (H1 : Heap) (locs1 : List Loc), k r M' → Hp G M' H0 H1 locs1 → s.drawn.sameBut d1 lw_cs → W p l e R (s.setDrawn d1) m args below meth c H1 locs1 cells slots Q (F0 m (pc + 3) ls (.float r :: rest))) : W p l e R (s.setDrawn d0) m args below meth c H locs cells slots Q (F0 m pc ls (.int (jI a1) :: .ref (jD G o) :: rest)) :=
  jr_callF hd B (jr_runVD (o := o) (As := [.int (jI a1)]) (n := 1) C hl B (m_X6_mean B.2.2 k_o r_a1 h) (jE7 k_o) (by omega) rfl q1 q_670 q_671 q_672 q_1 ⟨by decide, by decide, by decide +kernel⟩ rfl ⟨rfl, rfl⟩ hR hcs rfl hW hdg) (fun r M' d1 H1 locs1 hk B1 hd1 => kk r M' d1 H1 locs1 hk B1 hd1)
def w_X7_mean (N : Nat) (M : jM) (o : Int) (a1 : Int) (k : UInt32 → jM → Prop) : Prop := (w_X7_isColumn a1 (fun x1 => (if x1 = 0 then (k 3388220416 M) else (w_X7_laysEntries N M o a1 (fun x2 M3 => (if x2 = 0 then (k FP.fconst0 M3) else (w_X7_sumIn N M3 o a1 (-1) (fun x4 M5 => (∀ f6 : UInt32, alike32 f6 (FP.fdiv (FP.i2f (jI x4)) (FP.i2f (jI x2))) = true → (k f6 M5))))))))))
set_option maxHeartbeats 4000000 in
set_option maxRecDepth 100000 in
theorem m_X7_mean {l : Launch} {G : jG} {N : Nat} {M : jM} {o a1 : Int} {k : UInt32 → jM → Prop} (o_M : jOK M) (k_o : jK o = 8) (r_a1 : jR a1) (h : w_X7_mean N M o a1 k) : MetD lw_cs l yX7_mean (wsG yX7_mean cX7_mean 3 (some .float)) (rmm 6 140) (jPc G M [.ref (jD G o), .int (jI a1)]) (qF G k) 0 0 (gA G) := by
  refine jm_startD RX7 rfl (by decide) (Nat.le_of_ble_eq_true rfl) o_M ?_
  intro p e s m args below meth c ls C hr hlocks hl B hd
  have hl : lv_has ls 3 [(0, .ref (jD G o)), (1, .int (jI a1))] := hl
  unfold w_X7_mean at h
  refine lv_iload_n C.1 C.2.1 dX7_mean_0 rfl (lv_at hl 1 rfl) ?_
  refine cl_X7_isColumn C hl.1 B q_962 ⟨Nat.le_of_ble_eq_true rfl, Nat.le_of_ble_eq_true rfl⟩ ⟨Nat.zero_le _, Nat.zero_le _⟩ (Nat.le_of_ble_eq_true rfl) r_a1 h dX7_mean_1 (fun x1 z_x1 _ _ h B => ?_)
  refine jr_if_ne (tgt := 11) C (zR z_x1) h dX7_mean_4 (by decide) (fun hc4 h => ?_) (fun hc4 h => ?_)
  · refine jr_ldcwf C q_1125 dX7_mean_7 ?_
    refine W.endD hd ?_
    exact jr_fret C B hr hlocks h dX7_mean_10
  · refine lv_aload_n C.1 C.2.1 dX7_mean_11 rfl (lv_at hl 0 rfl) ?_
    refine lv_iload_n C.1 C.2.1 dX7_mean_12 rfl (lv_at hl 1 rfl) ?_
    refine cl_X7_laysEntries C hl.1 B q_1101 ⟨Nat.le_of_ble_eq_true rfl, Nat.le_of_ble_eq_true rfl⟩ ⟨Nat.zero_le _, Nat.zero_le _⟩ (Nat.le_of_ble_eq_true rfl) k_o r_a1 h dX7_mean_13 (fun x2 M3 r_x2 _ _ h B => ?_)
    have o_M3 := B.2.2
    refine lv_istore_n (lv' := [(2, .int (jI x2)), (0, .ref (jD G o)), (1, .int (jI a1))]) C.1 C.2.1 dX7_mean_16 rfl hl (by decide) rfl (fun ls hl => ?_)
    refine lv_iload_n C.1 C.2.1 dX7_mean_17 rfl (lv_at hl 0 rfl) ?_
    refine jr_if_ne (tgt := 25) C r_x2 h dX7_mean_18 (by decide) (fun hc18 h => ?_) (fun hc18 h => ?_)
    · refine lv_fconst0 C.1 C.2.1 dX7_mean_21 ?_
      refine lv_goto (tgt := 35) C.1 C.2.1 dX7_mean_22 (by decide) ?_
      refine W.endD hd ?_
      exact jr_fret C B hr hlocks h dX7_mean_35
    · refine lv_aload_n C.1 C.2.1 dX7_mean_25 rfl (lv_at hl 1 rfl) ?_
      refine lv_iload_n C.1 C.2.1 dX7_mean_26 rfl (lv_at hl 2 rfl) ?_
      refine jr_iconst C dX7_mean_27 ?_
      refine cl_X7_sumIn C hl.1 B q_1117 ⟨Nat.le_of_ble_eq_true rfl, Nat.le_of_ble_eq_true rfl⟩ ⟨Nat.zero_le _, Nat.zero_le _⟩ (Nat.le_of_ble_eq_true rfl) k_o r_a1 (jkc rfl) h dX7_mean_28 (fun x4 M5 r_x4 _ _ h B => ?_)
      have o_M5 := B.2.2
      refine lv_i2f C.1 C.2.1 dX7_mean_31 ?_
      refine lv_iload_n C.1 C.2.1 dX7_mean_32 rfl (lv_at hl 0 rfl) ?_
      refine lv_i2f C.1 C.2.1 dX7_mean_33 ?_
      refine lv_fdiv_any hd lw_bits C.1 C.2.1 dX7_mean_34 (fun f6 dd7 ha hd => ?_)
      have h := h f6 ha
      have C := C.redraw dd7
      refine W.endD hd ?_
      exact jr_fret C B hr hlocks h dX7_mean_35
theorem cl_X7_mean {p : Program} {l : Launch} {e : Env} {R : Room} {s : State} {m : MethodId} {args : Array Value} {below : List Frame} {meth : Method} {c : Code} {H : Heap} {locs : List Loc} {cells slots : Nat} {Q : State → Prop} {cc : ByteArray} {nL : Nat} {own : String} {G : jG} {H0 : Heap} {pc idx : Nat} {ls : Array Slot} {rest : List Value} {N : Nat} {M : jM} {o a1 : Int} {k : UInt32 → jM → Prop} {d0 : Drawn} (hd : s.drawn.sameBut d0 lw_cs) (C : Cx G p (s.setDrawn d0) args m c cc nL own) (hl : ls.size = nL) (B : Hp G M H0 H locs) (q1 : Cond.methodLink own idx yX7_mean ∈ tb) (hR : (rmm 6 140).frames + 1 ≤ R.frames ∧ 8 + (3 + 11) + (rmm 6 140).locals ≤ R.locals) (hcs : cells ≤ R.cells ∧ slots ≤ R.slots) (hW : (rest.map fun v => v.category).sum ≤ 8) (k_o : jK o = 8) (r_a1 : jR a1) (h : w_X7_mean N M o a1 k) (hdg : decode cc pc = .ok (.invokevirtual idx, 3)) (kk : ∀ (r : UInt32) (M' : jM) (d1 : Drawn) (H1 : Heap) (locs1 : List Loc), k r M' → Hp G M' H0 H1 locs1 → s.drawn.sameBut d1 lw_cs → W p l e R (s.setDrawn d1) m args below meth c H1 locs1 cells slots Q (F0 m (pc + 3) ls (.float r :: rest))) : W p l e R (s.setDrawn d0) m args below meth c H locs cells slots Q (F0 m pc ls (.int (jI a1) :: .ref (jD G o) :: rest)) :=
  jr_callF hd B (jr_runVD (o := o) (As := [.int (jI a1)]) (n := 1) C hl B (m_X7_mean B.2.2 k_o r_a1 h) (jE8 k_o) (by omega) rfl q1 q_1122 q_1123 q_1124 q_8 ⟨by decide, by decide, by decide +kernel⟩ rfl ⟨rfl, rfl⟩ hR hcs rfl hW hdg) (fun r M' d1 H1 locs1 hk B1 hd1 => kk r M' d1 H1 locs1 hk B1 hd1)
