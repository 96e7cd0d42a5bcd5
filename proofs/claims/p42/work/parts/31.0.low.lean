def w_L_low (a1 : Int) (a2 : Int) (k : Int → Prop) : Prop := (¬ a2 = 0 ∧ (k (jRem (jAnd a1 2147483647) a2)))
set_option maxHeartbeats 4000000 in
set_option maxRecDepth 100000 in
theorem m_L_low {l : Launch} {G : jG} {M : jM} {a1 a2 : Int} {k : Int → Prop} (o_M : jOK M) (r_a1 : jR a1) (r_a2 : jR a2) (h : w_L_low a1 a2 k) : Met l yL_low (wsG yL_low cL_low 2 (some .int)) (rmm 0 0) (jPc G M [.int (jI a1), .int (jI a2)]) (qI G (fun r M' => M' = M ∧ k r)) 0 0 (gA G) := by
  refine jm_start RL rfl (by decide) (Nat.le_of_ble_eq_true rfl) o_M ?_
  intro p e s m args below meth c ls C hr hlocks hl B
  have hl : lv_has ls 2 [(0, .int (jI a1)), (1, .int (jI a2))] := hl
  unfold w_L_low at h
  refine lv_iload_n C.1 C.2.1 dL_low_0 rfl (lv_at hl 0 rfl) ?_
  refine jr_ldc (n := 2147483647) C q_223 (by decide) dL_low_1 ?_
  refine jr_iand C dL_low_3 ?_
  refine lv_iload_n C.1 C.2.1 dL_low_4 rfl (lv_at hl 1 rfl) ?_
  obtain ⟨g1, h⟩ := h
  refine jr_irem C (jI_ne r_a2 g1) dL_low_5 ?_
  exact jr_iret C B hr hlocks (jRem_R _ _) ⟨rfl, h⟩ dL_low_6
theorem cl_L_low {p : Program} {l : Launch} {e : Env} {R : Room} {s : State} {m : MethodId} {args : Array Value} {below : List Frame} {meth : Method} {c : Code} {H : Heap} {locs : List Loc} {cells slots : Nat} {Q : State → Prop} {cc : ByteArray} {nL : Nat} {own : String} {G : jG} {H0 : Heap} {pc idx : Nat} {ls : Array Slot} {rest : List Value} {M : jM} {a1 a2 : Int} {k : Int → Prop} (C : Cx G p s args m c cc nL own) (hl : ls.size = nL) (B : Hp G M H0 H locs) (q1 : Cond.methodLink own idx yL_low ∈ tb) (hR : (rmm 0 0).frames + 1 ≤ R.frames ∧ 8 + (2 + 11) + (rmm 0 0).locals ≤ R.locals) (hcs : cells ≤ R.cells ∧ slots ≤ R.slots) (hW : (rest.map fun v => v.category).sum ≤ 8) (r_a1 : jR a1) (r_a2 : jR a2) (h : w_L_low a1 a2 k) (hdg : decode cc pc = .ok (.invokestatic idx, 3)) (kk : ∀ (r : Int), jR r → ∀ (H1 : Heap) (locs1 : List Loc), k r → Hp G M H0 H1 locs1 → W p l e R s m args below meth c H1 locs1 cells slots Q (F0 m (pc + 3) ls (.int (jI r) :: rest))) : W p l e R s m args below meth c H locs cells slots Q (F0 m pc ls (.int (jI a2) :: .int (jI a1) :: rest)) :=
  jr_callI B (jr_runS (As := [.int (jI a1), .int (jI a2)]) (n := 2) C hl B (m_L_low B.2.2 r_a1 r_a2 h) q1 q_221 q_222 q_0 ⟨by decide, by decide, by decide +kernel⟩ rfl ⟨rfl, rfl⟩ hR hcs rfl hW hdg) (fun r M' H1 locs1 hr hk B1 => by obtain ⟨rfl, hk⟩ := hk; exact kk r hr H1 locs1 hk B1)
