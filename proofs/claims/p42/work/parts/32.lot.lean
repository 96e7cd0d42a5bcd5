/-! lot: the script's int at a place, or a number of its own -/
def w_L_lot (X : Int → Int) (L : Int) (a2 : Int) (k : Int → Prop) : Prop := (if a2 < L then (jB a2 L ∧ (k (X a2))) else (k (jW ((jW ((-304028307) * (jW (a2 + 4643)))) + 4397))))
theorem m_L_lot {l : Launch} {G : jG} {M : jM} {X : Int → Int} {L : Int} {b Ln : Nat} {xs : Nat → Int32} {a2 : Int} {k : Int → Prop} (o_M : jOK M) (hbA : ¬ gA G b) (hL : L = (Ln : Int)) (r_L : jR L) (r_X : ∀ i, jR (X i)) (h4 : ∀ j : Nat, X (j : Int) = (xs j).toInt) (r_a2 : jR a2) (h : w_L_lot X L a2 k) : Met l yL_lot (wsG yL_lot cL_lot 2 (some .int)) (rmm 0 0) (xPc G M b Ln xs [.ref b, .int (jI a2)]) (qI G (fun r M' => M' = M ∧ k r)) 0 0 (gA G) := by
  refine Met.ofW (cc := cL_lot) (maxL := 2) (ret := some .int) (by decide) rfl ?_
  intro p e s m args below meth c s₁ B hml hv
  obtain ⟨rfl, hP, hK, hX, hbl⟩ := hv
  have hl := lv_entry [.ref b, .int (jI a2)] (n := 2) (Nat.le_of_ble_eq_true rfl)
  rw [lg_entry_eq]
  generalize (lg_sl [.ref b, .int (jI a2)] ++ List.replicate (2 - (lg_sl [.ref b, .int (jI a2)]).length) Slot.unset).toArray = ls at hl ⊢
  have hts := atoms_spec (ws := wsG yL_lot cL_lot 2 (some .int)) B.pre
  have C : Cx G p s _ m c cL_lot 2 RL := ⟨B.exec, B.bytes, hml, by exact findClass_of_methodNamed B.named, fun w hw => hts w (List.mem_cons_of_mem _ hw), hK⟩
  have hr := B.returns
  have hlocks := B.notSynchronized
  have B : Hp G M s.heap s.heap [] := ⟨hP, va_S.rf, o_M⟩
  have hl : lv_has ls 2 [(0, .ref b), (1, .int (jI a2))] := hl
  unfold w_L_lot at h
  refine lv_iload_n C.1 C.2.1 dL_lot_0 rfl (lv_at hl 1 rfl) ?_
  refine lv_aload_n C.1 C.2.1 dL_lot_1 rfl (lv_at hl 0 rfl) ?_
  refine jr_slen C hX hL hbl hbA B dL_lot_2 ?_
  refine jr_icmp_ge (tgt := 12) C r_a2 r_L h dL_lot_3 (by decide) (fun hc3 h => ?_) (fun hc3 h => ?_)
  · refine lv_aload_n C.1 C.2.1 dL_lot_6 rfl (lv_at hl 0 rfl) ?_
    refine lv_iload_n C.1 C.2.1 dL_lot_7 rfl (lv_at hl 1 rfl) ?_
    obtain ⟨g, h⟩ := h
    refine jr_sld C hX hL h4 hbl hbA B r_a2 g dL_lot_8 ?_
    refine lv_goto (tgt := 24) C.1 C.2.1 dL_lot_9 (by decide) ?_
    exact jr_iret C B hr hlocks (r_X _) ⟨rfl, h⟩ dL_lot_24
  · refine jr_ldc (n := -304028307) C q_219 (by decide) dL_lot_12 ?_
    refine lv_iload_n C.1 C.2.1 dL_lot_14 rfl (lv_at hl 1 rfl) ?_
    refine jr_sipush C dL_lot_15 (by decide) ?_
    refine jr_iadd C dL_lot_18 ?_
    refine jr_imul C dL_lot_19 ?_
    refine jr_sipush C dL_lot_20 (by decide) ?_
    refine jr_iadd C dL_lot_23 ?_
    exact jr_iret C B hr hlocks (jW_R _) ⟨rfl, h⟩ dL_lot_24
theorem cl_L_lot {p : Program} {l : Launch} {e : Env} {R : Room} {s : State} {m : MethodId} {args : Array Value} {below : List Frame} {meth : Method} {c : Code} {H : Heap} {locs : List Loc} {cells slots : Nat} {Q : State → Prop} {cc : ByteArray} {nL : Nat} {own : String} {G : jG} {H0 : Heap} {pc idx : Nat} {ls : Array Slot} {rest : List Value} {M : jM} {X : Int → Int} {L : Int} {b Ln : Nat} {xs : Nat → Int32} {a2 : Int} {k : Int → Prop} (C : Cx G p s args m c cc nL own) (hl : ls.size = nL) (B : Hp G M H0 H locs) (q1 : Cond.methodLink own idx yL_lot ∈ tb) (hLot : LotX G X L b Ln xs s H0) (hR : (rmm 0 0).frames + 1 ≤ R.frames ∧ 8 + (2 + 11) + (rmm 0 0).locals ≤ R.locals) (hcs : cells ≤ R.cells ∧ slots ≤ R.slots) (hW : (rest.map fun v => v.category).sum ≤ 8) (r_a2 : jR a2) (h : w_L_lot X L a2 k) (hdg : decode cc pc = .ok (.invokestatic idx, 3)) (kk : ∀ (r : Int), jR r → ∀ (H1 : Heap) (locs1 : List Loc), k r → Hp G M H0 H1 locs1 → W p l e R s m args below meth c H1 locs1 cells slots Q (F0 m (pc + 3) ls (.int (jI r) :: rest))) : W p l e R s m args below meth c H locs cells slots Q (F0 m pc ls (.int (jI a2) :: .ref b :: rest)) := by
  obtain ⟨hX, hbl, hbA, hL, r_L, r_X, h4⟩ := hLot
  have hXH : va_X b Ln xs s H := hX.kept (B.2.1.2.1 b hbl hbA)
  have hbH : b < H.size := Nat.lt_of_lt_of_le hbl B.2.1.1
  refine jr_callI B (va_runS (n := 2) ⟨C.1, C.2.1, C.2.2.1, C.2.2.2.1, C.2.2.2.2.1⟩ (m_L_lot (l := l) B.2.2 hbA hL r_L r_X h4 r_a2 h) ⟨callB_of 2 C.2.2.2.2.1 (wsG_good q_218) rfl rfl rfl (C.2.2.2.2.1 _ q_0) (C.2.2.2.2.1 _ q1) ⟨by decide, by decide, by decide +kernel⟩ hR, C.2.2.2.2.1 _ q_217⟩ (As := [.ref b, .int (jI a2)]) ⟨xPc_blind, fun U hU hW => ⟨rfl, by rw [hU]; exact B.1, C.2.2.2.2.2.warm hW, by rw [hU]; exact va_X.moved hW.alike hXH, by rw [hU]; exact hbH⟩⟩ rfl rfl hl rfl (lv_room hW) hdg hcs) (fun r M' H1 locs1 hr hk B1 => by obtain ⟨rfl, hk⟩ := hk; exact kk r hr H1 locs1 hk B1)
theorem jl_end {p : Program} {l : Launch} {e : Env} {s : State} {m : MethodId} {below : List Frame} {meth : Method} {c : Code} {H : Heap} {locs : List Loc} {ls : Array Slot} {b : Nat} {G : jG} {M : jM} {d0 : Drawn} {pc : Nat} {v : Int} (hd : s.drawn.sameBut d0 lw_cs) (hGb : s.heap.size ≤ G.2.2) (C : Cx G p (s.setDrawn d0) #[Value.ref b] m c cL_law 9 RL) (B : Hp G M s.heap H locs) (hr : meth.sig.returnType = ret) (hlocks : meth.locks = false) (hv : v = 1) (hdg : decode cL_law pc = .ok (.ireturn, 1)) : W p l e room_1 (s.setDrawn d0) m #[Value.ref b] below meth c H locs 252 10892 (lw_Z below #[Value.ref b] s) (F0 m pc ls [.int (jI v)]) := by
  subst hv
  refine va_forget (fun q hq => Nat.le_trans hGb (B.2.1.2.2 q hq).1) ?_
  refine W.widen (k := 600000) (n := 7302250) (Nat.le_of_ble_eq_true rfl) (Nat.le_of_ble_eq_true rfl) ?_
  exact lw_ret hd C.1 C.2.1 hr hlocks hdg
