def w_X7_isAhead (M : jM) (o : Int) (a1 : Int) (a2 : Int) (a3 : Int) (k : Int → Prop) : Prop := (jL (fun (x1 : Int) => (if x1 = 0 then (jB a1 200 ∧ (jB a2 200 ∧ (if (M (o + 7) a1) = (M (o + 7) a2) then (jB a1 200 ∧ (jB a2 200 ∧ (if (M (o + 8) a1) < (M (o + 8) a2) then (k 1) else (jB a1 200 ∧ (jB a2 200 ∧ (if (M (o + 8) a1) = (M (o + 8) a2) then (jB a1 200 ∧ (jB a2 200 ∧ (if (M (o + 9) a1) < (M (o + 9) a2) then (k 1) else (k 0)))) else (k 0))))))) else (k 0)))) else (k 1))) (fun j1_2 => (if a3 = 0 then (jB a1 200 ∧ (jB a2 200 ∧ (if (M (o + 7) a1) < (M (o + 7) a2) then (j1_2 1) else (j1_2 0)))) else (jB a1 200 ∧ (jB a2 200 ∧ (if (M (o + 7) a1) ≤ (M (o + 7) a2) then (j1_2 0) else (j1_2 1)))))))
set_option maxHeartbeats 4000000 in
set_option maxRecDepth 100000 in
theorem m_X7_isAhead {l : Launch} {G : jG} {M : jM} {o a1 a2 a3 : Int} {k : Int → Prop} (o_M : jOK M) (k_o : jK o = 8) (r_a1 : jR a1) (r_a2 : jR a2) (z_a3 : a3 = 0 ∨ a3 = 1) (h : w_X7_isAhead M o a1 a2 a3 k) : Met l yX7_isAhead (wsG yX7_isAhead cX7_isAhead 5 (some .boolean)) (rmm 0 0) (jPc G M [.ref (jD G o), .int (jI a1), .int (jI a2), .int (jI a3)]) (qZ G (fun r M' => M' = M ∧ k r)) 0 0 (gA G) := by
  refine jm_start RX7 rfl (by decide) (Nat.le_of_ble_eq_true rfl) o_M ?_
  intro p e s m args below meth c ls C hr hlocks hl B
  have hl : lv_has ls 5 [(0, .ref (jD G o)), (1, .int (jI a1)), (2, .int (jI a2)), (3, .int (jI a3))] := hl
  unfold w_X7_isAhead at h
  refine lv_iload_n C.1 C.2.1 dX7_isAhead_0 rfl (lv_at hl 3 rfl) ?_
  obtain ⟨j1_2, hj1_2, h⟩ := jx_join (P := fun j1_2 : Int → Prop => ∀ (x1 : Int) (H : Heap) (locs : List Loc) (ls : Array Slot), j1_2 x1 → (x1 = 0 ∨ x1 = 1) → Hp G M s.heap H locs → lv_has ls 5 [(0, .ref (jD G o)), (1, .int (jI a1)), (2, .int (jI a2))] → W p l e (rmm 0 0) s m args below meth c H locs 0 0 (MQ below (qZ G (fun r M' => M' = M ∧ k r)) args s 0 0 (gA G)) (F0 m 47 ls [.int (jI x1)])) h (by
    intro x1 H locs ls h z_x1 B hl
    refine lv_istore (lv' := [(4, .int (jI x1)), (0, .ref (jD G o)), (1, .int (jI a1)), (2, .int (jI a2))]) C.1 C.2.1 dX7_isAhead_47 hl (by decide) rfl (fun ls hl => ?_)
    refine lv_iload C.1 C.2.1 dX7_isAhead_49 (lv_at hl 0 rfl) ?_
    refine jr_if_ne (tgt := 114) C (zR z_x1) h dX7_isAhead_51 (by decide) (fun hc51 h => ?_) (fun hc51 h => ?_)
    · refine lv_aload_n C.1 C.2.1 dX7_isAhead_54 rfl (lv_at hl 1 rfl) ?_
      refine gf_X7_28 C B k_o dX7_isAhead_55 ?_
      refine lv_iload_n C.1 C.2.1 dX7_isAhead_58 rfl (lv_at hl 2 rfl) ?_
      obtain ⟨g3, h⟩ := h
      refine jr_iald C B 200 (jk1 (ko_X7_12 k_o) rfl) (jk2 (ko_X7_12 k_o) rfl) r_a1 g3 dX7_isAhead_59 ?_
      refine lv_aload_n C.1 C.2.1 dX7_isAhead_60 rfl (lv_at hl 1 rfl) ?_
      refine gf_X7_28 C B k_o dX7_isAhead_61 ?_
      refine lv_iload_n C.1 C.2.1 dX7_isAhead_64 rfl (lv_at hl 3 rfl) ?_
      obtain ⟨g4, h⟩ := h
      refine jr_iald C B 200 (jk1 (ko_X7_12 k_o) rfl) (jk2 (ko_X7_12 k_o) rfl) r_a2 g4 dX7_isAhead_65 ?_
      refine jr_icmp_ne (tgt := 118) C (o_M (o + 7) a1).1 (o_M (o + 7) a2).1 h dX7_isAhead_66 (by decide) (fun hc66 h => ?_) (fun hc66 h => ?_)
      · refine lv_aload_n C.1 C.2.1 dX7_isAhead_69 rfl (lv_at hl 1 rfl) ?_
        refine gf_X7_31 C B k_o dX7_isAhead_70 ?_
        refine lv_iload_n C.1 C.2.1 dX7_isAhead_73 rfl (lv_at hl 2 rfl) ?_
        obtain ⟨g5, h⟩ := h
        refine jr_iald C B 200 (jk1 (ko_X7_13 k_o) rfl) (jk2 (ko_X7_13 k_o) rfl) r_a1 g5 dX7_isAhead_74 ?_
        refine lv_aload_n C.1 C.2.1 dX7_isAhead_75 rfl (lv_at hl 1 rfl) ?_
        refine gf_X7_31 C B k_o dX7_isAhead_76 ?_
        refine lv_iload_n C.1 C.2.1 dX7_isAhead_79 rfl (lv_at hl 3 rfl) ?_
        obtain ⟨g6, h⟩ := h
        refine jr_iald C B 200 (jk1 (ko_X7_13 k_o) rfl) (jk2 (ko_X7_13 k_o) rfl) r_a2 g6 dX7_isAhead_80 ?_
        refine jr_icmp_lt (tgt := 114) C (o_M (o + 8) a1).1 (o_M (o + 8) a2).1 h dX7_isAhead_81 (by decide) (fun hc81 h => ?_) (fun hc81 h => ?_)
        · refine jr_iconst C dX7_isAhead_114 ?_
          refine lv_goto (tgt := 119) C.1 C.2.1 dX7_isAhead_115 (by decide) ?_
          exact jr_zret C B hr hlocks (Or.inr rfl) ⟨rfl, h⟩ dX7_isAhead_119
        · refine lv_aload_n C.1 C.2.1 dX7_isAhead_84 rfl (lv_at hl 1 rfl) ?_
          refine gf_X7_31 C B k_o dX7_isAhead_85 ?_
          refine lv_iload_n C.1 C.2.1 dX7_isAhead_88 rfl (lv_at hl 2 rfl) ?_
          obtain ⟨g7, h⟩ := h
          refine jr_iald C B 200 (jk1 (ko_X7_13 k_o) rfl) (jk2 (ko_X7_13 k_o) rfl) r_a1 g7 dX7_isAhead_89 ?_
          refine lv_aload_n C.1 C.2.1 dX7_isAhead_90 rfl (lv_at hl 1 rfl) ?_
          refine gf_X7_31 C B k_o dX7_isAhead_91 ?_
          refine lv_iload_n C.1 C.2.1 dX7_isAhead_94 rfl (lv_at hl 3 rfl) ?_
          obtain ⟨g8, h⟩ := h
          refine jr_iald C B 200 (jk1 (ko_X7_13 k_o) rfl) (jk2 (ko_X7_13 k_o) rfl) r_a2 g8 dX7_isAhead_95 ?_
          refine jr_icmp_ne (tgt := 118) C (o_M (o + 8) a1).1 (o_M (o + 8) a2).1 h dX7_isAhead_96 (by decide) (fun hc96 h => ?_) (fun hc96 h => ?_)
          · refine lv_aload_n C.1 C.2.1 dX7_isAhead_99 rfl (lv_at hl 1 rfl) ?_
            refine gf_X7_34 C B k_o dX7_isAhead_100 ?_
            refine lv_iload_n C.1 C.2.1 dX7_isAhead_103 rfl (lv_at hl 2 rfl) ?_
            obtain ⟨g9, h⟩ := h
            refine jr_iald C B 200 (jk1 (ko_X7_14 k_o) rfl) (jk2 (ko_X7_14 k_o) rfl) r_a1 g9 dX7_isAhead_104 ?_
            refine lv_aload_n C.1 C.2.1 dX7_isAhead_105 rfl (lv_at hl 1 rfl) ?_
            refine gf_X7_34 C B k_o dX7_isAhead_106 ?_
            refine lv_iload_n C.1 C.2.1 dX7_isAhead_109 rfl (lv_at hl 3 rfl) ?_
            obtain ⟨g10, h⟩ := h
            refine jr_iald C B 200 (jk1 (ko_X7_14 k_o) rfl) (jk2 (ko_X7_14 k_o) rfl) r_a2 g10 dX7_isAhead_110 ?_
            refine jr_icmp_ge (tgt := 118) C (o_M (o + 9) a1).1 (o_M (o + 9) a2).1 h dX7_isAhead_111 (by decide) (fun hc111 h => ?_) (fun hc111 h => ?_)
            · refine jr_iconst C dX7_isAhead_114 ?_
              refine lv_goto (tgt := 119) C.1 C.2.1 dX7_isAhead_115 (by decide) ?_
              exact jr_zret C B hr hlocks (Or.inr rfl) ⟨rfl, h⟩ dX7_isAhead_119
            · refine jr_iconst C dX7_isAhead_118 ?_
              exact jr_zret C B hr hlocks (Or.inl rfl) ⟨rfl, h⟩ dX7_isAhead_119
          · refine jr_iconst C dX7_isAhead_118 ?_
            exact jr_zret C B hr hlocks (Or.inl rfl) ⟨rfl, h⟩ dX7_isAhead_119
      · refine jr_iconst C dX7_isAhead_118 ?_
        exact jr_zret C B hr hlocks (Or.inl rfl) ⟨rfl, h⟩ dX7_isAhead_119
    · refine jr_iconst C dX7_isAhead_114 ?_
      refine lv_goto (tgt := 119) C.1 C.2.1 dX7_isAhead_115 (by decide) ?_
      exact jr_zret C B hr hlocks (Or.inr rfl) ⟨rfl, h⟩ dX7_isAhead_119)
  refine jr_if_eq (tgt := 27) C (zR z_a3) h dX7_isAhead_1 (by decide) (fun hc1 h => ?_) (fun hc1 h => ?_)
  · refine lv_aload_n C.1 C.2.1 dX7_isAhead_27 rfl (lv_at hl 0 rfl) ?_
    refine gf_X7_28 C B k_o dX7_isAhead_28 ?_
    refine lv_iload_n C.1 C.2.1 dX7_isAhead_31 rfl (lv_at hl 1 rfl) ?_
    obtain ⟨g11, h⟩ := h
    refine jr_iald C B 200 (jk1 (ko_X7_12 k_o) rfl) (jk2 (ko_X7_12 k_o) rfl) r_a1 g11 dX7_isAhead_32 ?_
    refine lv_aload_n C.1 C.2.1 dX7_isAhead_33 rfl (lv_at hl 0 rfl) ?_
    refine gf_X7_28 C B k_o dX7_isAhead_34 ?_
    refine lv_iload_n C.1 C.2.1 dX7_isAhead_37 rfl (lv_at hl 2 rfl) ?_
    obtain ⟨g12, h⟩ := h
    refine jr_iald C B 200 (jk1 (ko_X7_12 k_o) rfl) (jk2 (ko_X7_12 k_o) rfl) r_a2 g12 dX7_isAhead_38 ?_
    refine jr_icmp_ge (tgt := 46) C (o_M (o + 7) a1).1 (o_M (o + 7) a2).1 h dX7_isAhead_39 (by decide) (fun hc39 h => ?_) (fun hc39 h => ?_)
    · refine jr_iconst C dX7_isAhead_42 ?_
      refine lv_goto (tgt := 47) C.1 C.2.1 dX7_isAhead_43 (by decide) ?_
      exact hj1_2 _ _ _ _ h (Or.inr rfl) B (lv_sub hl [0, 1, 2] rfl)
    · refine jr_iconst C dX7_isAhead_46 ?_
      exact hj1_2 _ _ _ _ h (Or.inl rfl) B (lv_sub hl [0, 1, 2] rfl)
  · refine lv_aload_n C.1 C.2.1 dX7_isAhead_4 rfl (lv_at hl 0 rfl) ?_
    refine gf_X7_28 C B k_o dX7_isAhead_5 ?_
    refine lv_iload_n C.1 C.2.1 dX7_isAhead_8 rfl (lv_at hl 1 rfl) ?_
    obtain ⟨g13, h⟩ := h
    refine jr_iald C B 200 (jk1 (ko_X7_12 k_o) rfl) (jk2 (ko_X7_12 k_o) rfl) r_a1 g13 dX7_isAhead_9 ?_
    refine lv_aload_n C.1 C.2.1 dX7_isAhead_10 rfl (lv_at hl 0 rfl) ?_
    refine gf_X7_28 C B k_o dX7_isAhead_11 ?_
    refine lv_iload_n C.1 C.2.1 dX7_isAhead_14 rfl (lv_at hl 2 rfl) ?_
    obtain ⟨g14, h⟩ := h
    refine jr_iald C B 200 (jk1 (ko_X7_12 k_o) rfl) (jk2 (ko_X7_12 k_o) rfl) r_a2 g14 dX7_isAhead_15 ?_
    refine jr_icmp_le (tgt := 23) C (o_M (o + 7) a1).1 (o_M (o + 7) a2).1 h dX7_isAhead_16 (by decide) (fun hc16 h => ?_) (fun hc16 h => ?_)
    · refine jr_iconst C dX7_isAhead_23 ?_
      refine lv_goto (tgt := 47) C.1 C.2.1 dX7_isAhead_24 (by decide) ?_
      exact hj1_2 _ _ _ _ h (Or.inl rfl) B (lv_sub hl [0, 1, 2] rfl)
    · refine jr_iconst C dX7_isAhead_19 ?_
      refine lv_goto (tgt := 47) C.1 C.2.1 dX7_isAhead_20 (by decide) ?_
      exact hj1_2 _ _ _ _ h (Or.inr rfl) B (lv_sub hl [0, 1, 2] rfl)
theorem cl_X7_isAhead {p : Program} {l : Launch} {e : Env} {R : Room} {s : State} {m : MethodId} {args : Array Value} {below : List Frame} {meth : Method} {c : Code} {H : Heap} {locs : List Loc} {cells slots : Nat} {Q : State → Prop} {cc : ByteArray} {nL : Nat} {own : String} {G : jG} {H0 : Heap} {pc idx : Nat} {ls : Array Slot} {rest : List Value} {M : jM} {o a1 a2 a3 : Int} {k : Int → Prop} (C : Cx G p s args m c cc nL own) (hl : ls.size = nL) (B : Hp G M H0 H locs) (q1 : Cond.methodLink own idx yX7_isAhead ∈ tb) (hR : (rmm 0 0).frames + 1 ≤ R.frames ∧ 8 + (5 + 11) + (rmm 0 0).locals ≤ R.locals) (hcs : cells ≤ R.cells ∧ slots ≤ R.slots) (hW : (rest.map fun v => v.category).sum ≤ 8) (k_o : jK o = 8) (r_a1 : jR a1) (r_a2 : jR a2) (z_a3 : a3 = 0 ∨ a3 = 1) (h : w_X7_isAhead M o a1 a2 a3 k) (hdg : decode cc pc = .ok (.invokevirtual idx, 3)) (kk : ∀ (r : Int), (r = 0 ∨ r = 1) → ∀ (H1 : Heap) (locs1 : List Loc), k r → Hp G M H0 H1 locs1 → W p l e R s m args below meth c H1 locs1 cells slots Q (F0 m (pc + 3) ls (.int (jI r) :: rest))) : W p l e R s m args below meth c H locs cells slots Q (F0 m pc ls (.int (jI a3) :: .int (jI a2) :: .int (jI a1) :: .ref (jD G o) :: rest)) :=
  jr_callZ B (jr_runV (o := o) (As := [.int (jI a1), .int (jI a2), .int (jI a3)]) (n := 3) C hl B (m_X7_isAhead B.2.2 k_o r_a1 r_a2 z_a3 h) (jE8 k_o) (by omega) rfl q1 q_1111 qs_72 q_1112 q_8 ⟨by decide, by decide, by decide +kernel⟩ rfl ⟨rfl, rfl⟩ hR hcs rfl hW hdg) (fun r M' H1 locs1 hr hk B1 => by obtain ⟨rfl, hk⟩ := hk; exact kk r hr H1 locs1 hk B1)
def lp_X7_explodedAt_54 (o : Int) (a2 : Int) (x3 : Int) (x6 : Int) (M4 : jM) (kx54 : Int → Prop) : Nat → Int → Int → Prop
  | 0, _, _ => False
  | n + 1, x11, x12 => (if x12 < x3 then (w_X7_isAhead M4 o x12 x6 a2 (fun x16 => (if x16 = 0 then (jL (jW (x11 + 0)) (fun x17 => (jL (jW (x12 + 1)) (fun x18 => (lp_X7_explodedAt_54 o a2 x3 x6 M4 kx54 n x17 x18))))) else (jL (jW (x11 + 1)) (fun x19 => (jL (jW (x12 + 1)) (fun x20 => (lp_X7_explodedAt_54 o a2 x3 x6 M4 kx54 n x19 x20)))))))) else (kx54 x11))
def lp_X7_explodedAt_41 (N : Nat) (o : Int) (a2 : Int) (a3 : Int) (x3 : Int) (M4 : jM) (kx41 : Int → Prop) : Nat → Int → Int → Prop
  | 0, _, _ => False
  | n + 1, x5, x6 => (if x6 < x3 then (lp_X7_explodedAt_54 o a2 x3 x6 M4 (fun (x13 : Int) => (if x13 = a3 then (jL (jW (x6 + 1)) (fun x14 => (lp_X7_explodedAt_41 N o a2 a3 x3 M4 kx41 n x6 x14))) else (jL (jW (x6 + 1)) (fun x15 => (lp_X7_explodedAt_41 N o a2 a3 x3 M4 kx41 n x5 x15))))) N 0 0) else (kx41 x5))
def w_X7_explodedAt (N : Nat) (M : jM) (o : Int) (a1 : Int) (a2 : Int) (a3 : Int) (a4 : Int) (k : Int → jM → Prop) : Prop := (w_X7_isColumn a1 (fun x1 => (if x1 = 0 then (k (-1000001) M) else (if a3 < 0 then (k (-1000002) M) else (w_X7_in a4 0 2 (fun x2 => (if x2 = 0 then (k (-1000002) M) else (w_X7_laysEntries N M o a1 (fun x3 M4 => (lp_X7_explodedAt_41 N o a2 a3 x3 M4 (fun (x7 : Int) => (if x7 < 0 then (k (-1000007) M4) else (if a4 = 0 then (jB x7 200 ∧ (k (M4 (o + 7) x7) M4)) else (if a4 = 1 then (jB x7 200 ∧ (k (M4 (o + 8) x7) M4)) else (jB x7 200 ∧ (k (M4 (o + 9) x7) M4)))))) N (-1000007) 0))))))))))
set_option maxHeartbeats 4000000 in
set_option maxRecDepth 100000 in
theorem m_X7_explodedAt {l : Launch} {G : jG} {N : Nat} {M : jM} {o a1 a2 a3 a4 : Int} {k : Int → jM → Prop} (o_M : jOK M) (k_o : jK o = 8) (r_a1 : jR a1) (z_a2 : a2 = 0 ∨ a2 = 1) (r_a3 : jR a3) (r_a4 : jR a4) (h : w_X7_explodedAt N M o a1 a2 a3 a4 k) : Met l yX7_explodedAt (wsG yX7_explodedAt cX7_explodedAt 10 (some .int)) (rmm 6 139) (jPc G M [.ref (jD G o), .int (jI a1), .int (jI a2), .int (jI a3), .int (jI a4)]) (qI G k) 0 0 (gA G) := by
  refine jm_start RX7 rfl (by decide) (Nat.le_of_ble_eq_true rfl) o_M ?_
  intro p e s m args below meth c ls C hr hlocks hl B
  have hl : lv_has ls 10 [(0, .ref (jD G o)), (1, .int (jI a1)), (2, .int (jI a2)), (3, .int (jI a3)), (4, .int (jI a4))] := hl
  unfold w_X7_explodedAt at h
  refine lv_iload_n C.1 C.2.1 dX7_explodedAt_0 rfl (lv_at hl 1 rfl) ?_
  refine cl_X7_isColumn C hl.1 B q_962 ⟨Nat.le_of_ble_eq_true rfl, Nat.le_of_ble_eq_true rfl⟩ ⟨Nat.zero_le _, Nat.zero_le _⟩ (Nat.le_of_ble_eq_true rfl) r_a1 h dX7_explodedAt_1 (fun x1 z_x1 _ _ h B => ?_)
  refine jr_if_ne (tgt := 10) C (zR z_x1) h dX7_explodedAt_4 (by decide) (fun hc4 h => ?_) (fun hc4 h => ?_)
  · refine jr_ldc (n := -1000001) C q_753 (by decide) dX7_explodedAt_7 ?_
    exact jr_iret C B hr hlocks (jkc rfl) h dX7_explodedAt_9
  · refine lv_iload_n C.1 C.2.1 dX7_explodedAt_10 rfl (lv_at hl 3 rfl) ?_
    refine jr_if_lt (tgt := 24) C r_a3 h dX7_explodedAt_11 (by decide) (fun hc11 h => ?_) (fun hc11 h => ?_)
    · refine jr_ldc (n := -1000002) C q_748 (by decide) dX7_explodedAt_24 ?_
      exact jr_iret C B hr hlocks (jkc rfl) h dX7_explodedAt_26
    · refine lv_iload C.1 C.2.1 dX7_explodedAt_14 (lv_at hl 4 rfl) ?_
      refine jr_iconst C dX7_explodedAt_16 ?_
      refine jr_iconst C dX7_explodedAt_17 ?_
      refine cl_X7_in C hl.1 B q_745 ⟨Nat.le_of_ble_eq_true rfl, Nat.le_of_ble_eq_true rfl⟩ ⟨Nat.zero_le _, Nat.zero_le _⟩ (Nat.le_of_ble_eq_true rfl) r_a4 (jkc rfl) (jkc rfl) h dX7_explodedAt_18 (fun x2 z_x2 _ _ h B => ?_)
      refine jr_if_ne (tgt := 27) C (zR z_x2) h dX7_explodedAt_21 (by decide) (fun hc21 h => ?_) (fun hc21 h => ?_)
      · refine jr_ldc (n := -1000002) C q_748 (by decide) dX7_explodedAt_24 ?_
        exact jr_iret C B hr hlocks (jkc rfl) h dX7_explodedAt_26
      · refine lv_aload_n C.1 C.2.1 dX7_explodedAt_27 rfl (lv_at hl 0 rfl) ?_
        refine lv_iload_n C.1 C.2.1 dX7_explodedAt_28 rfl (lv_at hl 1 rfl) ?_
        refine cl_X7_laysEntries C hl.1 B q_1101 ⟨Nat.le_of_ble_eq_true rfl, Nat.le_of_ble_eq_true rfl⟩ ⟨Nat.zero_le _, Nat.zero_le _⟩ (Nat.le_of_ble_eq_true rfl) k_o r_a1 h dX7_explodedAt_29 (fun x3 M4 r_x3 _ _ h B => ?_)
        have o_M4 := B.2.2
        refine lv_istore (lv' := [(5, .int (jI x3)), (0, .ref (jD G o)), (1, .int (jI a1)), (2, .int (jI a2)), (3, .int (jI a3)), (4, .int (jI a4))]) C.1 C.2.1 dX7_explodedAt_32 hl (by decide) rfl (fun ls hl => ?_)
        refine jr_ldc (n := -1000007) C q_892 (by decide) dX7_explodedAt_34 ?_
        refine lv_istore (lv' := [(6, .int (jI (-1000007))), (5, .int (jI x3)), (0, .ref (jD G o)), (1, .int (jI a1)), (2, .int (jI a2)), (3, .int (jI a3)), (4, .int (jI a4))]) C.1 C.2.1 dX7_explodedAt_36 hl (by decide) rfl (fun ls hl => ?_)
        refine jr_iconst C dX7_explodedAt_38 ?_
        refine lv_istore (lv' := [(7, .int (jI 0)), (6, .int (jI (-1000007))), (5, .int (jI x3)), (0, .ref (jD G o)), (1, .int (jI a1)), (2, .int (jI a2)), (3, .int (jI a3)), (4, .int (jI a4))]) C.1 C.2.1 dX7_explodedAt_39 hl (by decide) rfl (fun ls hl => ?_)
        obtain ⟨kx41, hkx41, h⟩ : ∃ kx41 : Int → Prop, (∀ (x7 : Int) (H : Heap) (locs : List Loc) (ls : Array Slot), kx41 x7 → jR x7 → Hp G M4 s.heap H locs → lv_has ls 10 [(6, .int (jI x7)), (0, .ref (jD G o)), (4, .int (jI a4))] → W p l e (rmm 6 139) s m args below meth c H locs 0 0 (MQ below (qI G k) args s 0 0 (gA G)) (F0 m 110 ls [])) ∧ lp_X7_explodedAt_41 N o a2 a3 x3 M4 kx41 N (-1000007) 0 := by
          refine ⟨_, ?_, h⟩
          intro x7 H locs ls h r_x7 B hl
          refine lv_iload C.1 C.2.1 dX7_explodedAt_110 (lv_at hl 0 rfl) ?_
          refine jr_if_ge (tgt := 120) C r_x7 h dX7_explodedAt_112 (by decide) (fun hc112 h => ?_) (fun hc112 h => ?_)
          · refine jr_ldc (n := -1000007) C q_892 (by decide) dX7_explodedAt_115 ?_
            refine lv_goto (tgt := 158) C.1 C.2.1 dX7_explodedAt_117 (by decide) ?_
            exact jr_iret C B hr hlocks (jkc rfl) h dX7_explodedAt_158
          · refine lv_iload C.1 C.2.1 dX7_explodedAt_120 (lv_at hl 2 rfl) ?_
            refine jr_if_ne (tgt := 135) C r_a4 h dX7_explodedAt_122 (by decide) (fun hc122 h => ?_) (fun hc122 h => ?_)
            · refine lv_aload_n C.1 C.2.1 dX7_explodedAt_125 rfl (lv_at hl 1 rfl) ?_
              refine gf_X7_28 C B k_o dX7_explodedAt_126 ?_
              refine lv_iload C.1 C.2.1 dX7_explodedAt_129 (lv_at hl 0 rfl) ?_
              obtain ⟨g8, h⟩ := h
              refine jr_iald C B 200 (jk1 (ko_X7_12 k_o) rfl) (jk2 (ko_X7_12 k_o) rfl) r_x7 g8 dX7_explodedAt_131 ?_
              refine lv_goto (tgt := 158) C.1 C.2.1 dX7_explodedAt_132 (by decide) ?_
              exact jr_iret C B hr hlocks (o_M4 (o + 7) x7).1 h dX7_explodedAt_158
            · refine lv_iload C.1 C.2.1 dX7_explodedAt_135 (lv_at hl 2 rfl) ?_
              refine jr_iconst C dX7_explodedAt_137 ?_
              refine jr_icmp_ne (tgt := 151) C r_a4 (jkc rfl) h dX7_explodedAt_138 (by decide) (fun hc138 h => ?_) (fun hc138 h => ?_)
              · refine lv_aload_n C.1 C.2.1 dX7_explodedAt_141 rfl (lv_at hl 1 rfl) ?_
                refine gf_X7_31 C B k_o dX7_explodedAt_142 ?_
                refine lv_iload C.1 C.2.1 dX7_explodedAt_145 (lv_at hl 0 rfl) ?_
                obtain ⟨g9, h⟩ := h
                refine jr_iald C B 200 (jk1 (ko_X7_13 k_o) rfl) (jk2 (ko_X7_13 k_o) rfl) r_x7 g9 dX7_explodedAt_147 ?_
                refine lv_goto (tgt := 158) C.1 C.2.1 dX7_explodedAt_148 (by decide) ?_
                exact jr_iret C B hr hlocks (o_M4 (o + 8) x7).1 h dX7_explodedAt_158
              · refine lv_aload_n C.1 C.2.1 dX7_explodedAt_151 rfl (lv_at hl 1 rfl) ?_
                refine gf_X7_34 C B k_o dX7_explodedAt_152 ?_
                refine lv_iload C.1 C.2.1 dX7_explodedAt_155 (lv_at hl 0 rfl) ?_
                obtain ⟨g10, h⟩ := h
                refine jr_iald C B 200 (jk1 (ko_X7_14 k_o) rfl) (jk2 (ko_X7_14 k_o) rfl) r_x7 g10 dX7_explodedAt_157 ?_
                exact jr_iret C B hr hlocks (o_M4 (o + 9) x7).1 h dX7_explodedAt_158
        have hL41 : ∀ (n : Nat) (x5 : Int) (x6 : Int) (H : Heap) (locs : List Loc) (ls : Array Slot), lp_X7_explodedAt_41 N o a2 a3 x3 M4 kx41 n x5 x6 → jR x5 → jR x6 → Hp G M4 s.heap H locs → lv_has ls 10 [(6, .int (jI x5)), (7, .int (jI x6)), (5, .int (jI x3)), (0, .ref (jD G o)), (2, .int (jI a2)), (3, .int (jI a3)), (4, .int (jI a4))] → W p l e (rmm 6 139) s m args below meth c H locs 0 0 (MQ below (qI G k) args s 0 0 (gA G)) (F0 m 41 ls []) := by
          intro n
          induction n with
          | zero => intro x5 x6 H locs ls h; exact (show False from h).elim
          | succ n ih41 =>
            intro x5 x6 H locs ls h r_x5 r_x6 B hl
            rw [lp_X7_explodedAt_41] at h
            refine lv_iload C.1 C.2.1 dX7_explodedAt_41 (lv_at hl 1 rfl) ?_
            refine lv_iload C.1 C.2.1 dX7_explodedAt_43 (lv_at hl 2 rfl) ?_
            refine jr_icmp_ge (tgt := 110) C r_x6 r_x3 h dX7_explodedAt_45 (by decide) (fun hc45 h => ?_) (fun hc45 h => ?_)
            · refine jr_iconst C dX7_explodedAt_48 ?_
              refine lv_istore (lv' := [(8, .int (jI 0)), (6, .int (jI x5)), (7, .int (jI x6)), (5, .int (jI x3)), (0, .ref (jD G o)), (2, .int (jI a2)), (3, .int (jI a3)), (4, .int (jI a4))]) C.1 C.2.1 dX7_explodedAt_49 hl (by decide) rfl (fun ls hl => ?_)
              refine jr_iconst C dX7_explodedAt_51 ?_
              refine lv_istore (lv' := [(9, .int (jI 0)), (8, .int (jI 0)), (6, .int (jI x5)), (7, .int (jI x6)), (5, .int (jI x3)), (0, .ref (jD G o)), (2, .int (jI a2)), (3, .int (jI a3)), (4, .int (jI a4))]) C.1 C.2.1 dX7_explodedAt_52 hl (by decide) rfl (fun ls hl => ?_)
              obtain ⟨kx54, hkx54, h⟩ : ∃ kx54 : Int → Prop, (∀ (x13 : Int) (H : Heap) (locs : List Loc) (ls : Array Slot), kx54 x13 → jR x13 → Hp G M4 s.heap H locs → lv_has ls 10 [(8, .int (jI x13)), (6, .int (jI x5)), (7, .int (jI x6)), (5, .int (jI x3)), (0, .ref (jD G o)), (2, .int (jI a2)), (3, .int (jI a3)), (4, .int (jI a4))] → W p l e (rmm 6 139) s m args below meth c H locs 0 0 (MQ below (qI G k) args s 0 0 (gA G)) (F0 m 89 ls [])) ∧ lp_X7_explodedAt_54 o a2 x3 x6 M4 kx54 N 0 0 := by
                refine ⟨_, ?_, h⟩
                intro x13 H locs ls h r_x13 B hl
                refine lv_iload C.1 C.2.1 dX7_explodedAt_89 (lv_at hl 0 rfl) ?_
                refine lv_iload_n C.1 C.2.1 dX7_explodedAt_91 rfl (lv_at hl 6 rfl) ?_
                refine jr_icmp_ne (tgt := 100) C r_x13 r_a3 h dX7_explodedAt_92 (by decide) (fun hc92 h => ?_) (fun hc92 h => ?_)
                · refine lv_iload C.1 C.2.1 dX7_explodedAt_95 (lv_at hl 2 rfl) ?_
                  refine lv_goto (tgt := 102) C.1 C.2.1 dX7_explodedAt_97 (by decide) ?_
                  refine lv_istore (lv' := [(6, .int (jI x6)), (8, .int (jI x13)), (7, .int (jI x6)), (5, .int (jI x3)), (0, .ref (jD G o)), (2, .int (jI a2)), (3, .int (jI a3)), (4, .int (jI a4))]) C.1 C.2.1 dX7_explodedAt_102 hl (by decide) rfl (fun ls hl => ?_)
                  refine jr_iinc (k := 2) (lv' := fun x14 => [(7, .int (jI x14)), (6, .int (jI x6)), (8, .int (jI x13)), (5, .int (jI x3)), (0, .ref (jD G o)), (2, .int (jI a2)), (3, .int (jI a3)), (4, .int (jI a4))]) C h hl rfl (by decide) (fun _ => rfl) dX7_explodedAt_104 (fun x14 h r_x14 ls hl => ?_)
                  refine lv_goto (tgt := 41) C.1 C.2.1 dX7_explodedAt_107 (by decide) ?_
                  exact ih41 _ _ _ _ _ h r_x6 r_x14 B (lv_sub hl [1, 0, 3, 4, 5, 6, 7] rfl)
                · refine lv_iload C.1 C.2.1 dX7_explodedAt_100 (lv_at hl 1 rfl) ?_
                  refine lv_istore (lv' := [(6, .int (jI x5)), (8, .int (jI x13)), (7, .int (jI x6)), (5, .int (jI x3)), (0, .ref (jD G o)), (2, .int (jI a2)), (3, .int (jI a3)), (4, .int (jI a4))]) C.1 C.2.1 dX7_explodedAt_102 hl (by decide) rfl (fun ls hl => ?_)
                  refine jr_iinc (k := 2) (lv' := fun x15 => [(7, .int (jI x15)), (6, .int (jI x5)), (8, .int (jI x13)), (5, .int (jI x3)), (0, .ref (jD G o)), (2, .int (jI a2)), (3, .int (jI a3)), (4, .int (jI a4))]) C h hl rfl (by decide) (fun _ => rfl) dX7_explodedAt_104 (fun x15 h r_x15 ls hl => ?_)
                  refine lv_goto (tgt := 41) C.1 C.2.1 dX7_explodedAt_107 (by decide) ?_
                  exact ih41 _ _ _ _ _ h r_x5 r_x15 B (lv_sub hl [1, 0, 3, 4, 5, 6, 7] rfl)
              have hL54 : ∀ (n : Nat) (x11 : Int) (x12 : Int) (H : Heap) (locs : List Loc) (ls : Array Slot), lp_X7_explodedAt_54 o a2 x3 x6 M4 kx54 n x11 x12 → jR x11 → jR x12 → Hp G M4 s.heap H locs → lv_has ls 10 [(8, .int (jI x11)), (9, .int (jI x12)), (6, .int (jI x5)), (7, .int (jI x6)), (5, .int (jI x3)), (0, .ref (jD G o)), (2, .int (jI a2)), (3, .int (jI a3)), (4, .int (jI a4))] → W p l e (rmm 6 139) s m args below meth c H locs 0 0 (MQ below (qI G k) args s 0 0 (gA G)) (F0 m 54 ls []) := by
                intro n
                induction n with
                | zero => intro x11 x12 H locs ls h; exact (show False from h).elim
                | succ n ih54 =>
                  intro x11 x12 H locs ls h r_x11 r_x12 B hl
                  rw [lp_X7_explodedAt_54] at h
                  refine lv_iload C.1 C.2.1 dX7_explodedAt_54 (lv_at hl 1 rfl) ?_
                  refine lv_iload C.1 C.2.1 dX7_explodedAt_56 (lv_at hl 4 rfl) ?_
                  refine jr_icmp_ge (tgt := 89) C r_x12 r_x3 h dX7_explodedAt_58 (by decide) (fun hc58 h => ?_) (fun hc58 h => ?_)
                  · refine lv_iload C.1 C.2.1 dX7_explodedAt_61 (lv_at hl 0 rfl) ?_
                    refine lv_aload_n C.1 C.2.1 dX7_explodedAt_63 rfl (lv_at hl 5 rfl) ?_
                    refine lv_iload C.1 C.2.1 dX7_explodedAt_64 (lv_at hl 1 rfl) ?_
                    refine lv_iload C.1 C.2.1 dX7_explodedAt_66 (lv_at hl 3 rfl) ?_
                    refine lv_iload_n C.1 C.2.1 dX7_explodedAt_68 rfl (lv_at hl 6 rfl) ?_
                    refine cl_X7_isAhead C hl.1 B q_1109 ⟨Nat.le_of_ble_eq_true rfl, Nat.le_of_ble_eq_true rfl⟩ ⟨Nat.zero_le _, Nat.zero_le _⟩ (Nat.le_of_ble_eq_true rfl) k_o r_x12 r_x6 z_a2 h dX7_explodedAt_69 (fun x16 z_x16 _ _ h B => ?_)
                    refine jr_if_eq (tgt := 79) C (zR z_x16) h dX7_explodedAt_72 (by decide) (fun hc72 h => ?_) (fun hc72 h => ?_)
                    · refine jr_iconst C dX7_explodedAt_79 ?_
                      refine jr_iadd C dX7_explodedAt_80 ?_
                      refine jr_nm h (jW_R _) (fun x17 h r_x17 => ?_)
                      refine lv_istore (lv' := [(8, .int (jI x17)), (9, .int (jI x12)), (6, .int (jI x5)), (7, .int (jI x6)), (5, .int (jI x3)), (0, .ref (jD G o)), (2, .int (jI a2)), (3, .int (jI a3)), (4, .int (jI a4))]) C.1 C.2.1 dX7_explodedAt_81 hl (by decide) rfl (fun ls hl => ?_)
                      refine jr_iinc (k := 1) (lv' := fun x18 => [(9, .int (jI x18)), (8, .int (jI x17)), (6, .int (jI x5)), (7, .int (jI x6)), (5, .int (jI x3)), (0, .ref (jD G o)), (2, .int (jI a2)), (3, .int (jI a3)), (4, .int (jI a4))]) C h hl rfl (by decide) (fun _ => rfl) dX7_explodedAt_83 (fun x18 h r_x18 ls hl => ?_)
                      refine lv_goto (tgt := 54) C.1 C.2.1 dX7_explodedAt_86 (by decide) ?_
                      exact ih54 _ _ _ _ _ h r_x17 r_x18 B (lv_sub hl [1, 0, 2, 3, 4, 5, 6, 7, 8] rfl)
                    · refine jr_iconst C dX7_explodedAt_75 ?_
                      refine lv_goto (tgt := 80) C.1 C.2.1 dX7_explodedAt_76 (by decide) ?_
                      refine jr_iadd C dX7_explodedAt_80 ?_
                      refine jr_nm h (jW_R _) (fun x19 h r_x19 => ?_)
                      refine lv_istore (lv' := [(8, .int (jI x19)), (9, .int (jI x12)), (6, .int (jI x5)), (7, .int (jI x6)), (5, .int (jI x3)), (0, .ref (jD G o)), (2, .int (jI a2)), (3, .int (jI a3)), (4, .int (jI a4))]) C.1 C.2.1 dX7_explodedAt_81 hl (by decide) rfl (fun ls hl => ?_)
                      refine jr_iinc (k := 1) (lv' := fun x20 => [(9, .int (jI x20)), (8, .int (jI x19)), (6, .int (jI x5)), (7, .int (jI x6)), (5, .int (jI x3)), (0, .ref (jD G o)), (2, .int (jI a2)), (3, .int (jI a3)), (4, .int (jI a4))]) C h hl rfl (by decide) (fun _ => rfl) dX7_explodedAt_83 (fun x20 h r_x20 ls hl => ?_)
                      refine lv_goto (tgt := 54) C.1 C.2.1 dX7_explodedAt_86 (by decide) ?_
                      exact ih54 _ _ _ _ _ h r_x19 r_x20 B (lv_sub hl [1, 0, 2, 3, 4, 5, 6, 7, 8] rfl)
                  · exact hkx54 _ _ _ _ h r_x11 B (lv_sub hl [0, 2, 3, 4, 5, 6, 7, 8] rfl)
              exact hL54 N _ _ _ _ _ h (jkc rfl) (jkc rfl) B (lv_sub hl [1, 0, 2, 3, 4, 5, 6, 7, 8] rfl)
            · exact hkx41 _ _ _ _ h r_x5 B (lv_sub hl [0, 3, 6] rfl)
        exact hL41 N _ _ _ _ _ h (jkc rfl) (jkc rfl) B (lv_sub hl [1, 0, 2, 3, 5, 6, 7] rfl)
theorem cl_X7_explodedAt {p : Program} {l : Launch} {e : Env} {R : Room} {s : State} {m : MethodId} {args : Array Value} {below : List Frame} {meth : Method} {c : Code} {H : Heap} {locs : List Loc} {cells slots : Nat} {Q : State → Prop} {cc : ByteArray} {nL : Nat} {own : String} {G : jG} {H0 : Heap} {pc idx : Nat} {ls : Array Slot} {rest : List Value} {N : Nat} {M : jM} {o a1 a2 a3 a4 : Int} {k : Int → jM → Prop} (C : Cx G p s args m c cc nL own) (hl : ls.size = nL) (B : Hp G M H0 H locs) (q1 : Cond.methodLink own idx yX7_explodedAt ∈ tb) (hR : (rmm 6 139).frames + 1 ≤ R.frames ∧ 8 + (10 + 11) + (rmm 6 139).locals ≤ R.locals) (hcs : cells ≤ R.cells ∧ slots ≤ R.slots) (hW : (rest.map fun v => v.category).sum ≤ 8) (k_o : jK o = 8) (r_a1 : jR a1) (z_a2 : a2 = 0 ∨ a2 = 1) (r_a3 : jR a3) (r_a4 : jR a4) (h : w_X7_explodedAt N M o a1 a2 a3 a4 k) (hdg : decode cc pc = .ok (.invokevirtual idx, 3)) (kk : ∀ (r : Int) (M' : jM), jR r → ∀ (H1 : Heap) (locs1 : List Loc), k r M' → Hp G M' H0 H1 locs1 → W p l e R s m args below meth c H1 locs1 cells slots Q (F0 m (pc + 3) ls (.int (jI r) :: rest))) : W p l e R s m args below meth c H locs cells slots Q (F0 m pc ls (.int (jI a4) :: .int (jI a3) :: .int (jI a2) :: .int (jI a1) :: .ref (jD G o) :: rest)) :=
  jr_callI B (jr_runV (o := o) (As := [.int (jI a1), .int (jI a2), .int (jI a3), .int (jI a4)]) (n := 4) C hl B (m_X7_explodedAt B.2.2 k_o r_a1 z_a2 r_a3 r_a4 h) (jE8 k_o) (by omega) rfl q1 q_1106 q_1107 q_1108 q_8 ⟨by decide, by decide, by decide +kernel⟩ rfl ⟨rfl, rfl⟩ hR hcs rfl hW hdg) (fun r M' H1 locs1 hr hk B1 => kk r M' hr H1 locs1 hk B1)
def lp_X7_sumIn_51 (o : Int) (x7 : Int) (M9 : jM) (kx51 : Int → Prop) : Nat → Int → Int → Prop
  | 0, _, _ => False
  | n + 1, x10, x11 => (if x11 < x7 then (jB x11 20 ∧ (jL (jW (x10 + (M9 (o + 6) x11))) (fun x15 => (jL (jW (x11 + 1)) (fun x16 => (lp_X7_sumIn_51 o x7 M9 kx51 n x15 x16)))))) else (kx51 x10))
def lp_X7_sumIn_5 (N : Nat) (o : Int) (a1 : Int) (a2 : Int) (kx5 : Int → jM → Prop) : Nat → Int → Int → jM → Prop
  | 0, _, _, _ => False
  | n + 1, x1, x2, M3 => (jB 0 1115 ∧ (if x2 < (M3 (o + 1) 0) then (jL (fun (x7 : Int) (M9 : jM) => (lp_X7_sumIn_51 o x7 M9 (fun (x12 : Int) => (jL (jW (x2 + 1)) (fun x13 => (lp_X7_sumIn_5 N o a1 a2 kx5 n x12 x13 M9)))) N x1 0)) (fun j17_8 => (if a2 < 0 then (w_X7_tells N M3 o x2 a1 (fun x17 M18 => (j17_8 x17 M18))) else (w_X7_of M3 o x2 0 (fun x19 => (w_X7_isIn M3 o a2 x19 (fun x20 => (if x20 = 0 then (j17_8 0 M3) else (w_X7_tells N M3 o x2 a1 (fun x21 M22 => (j17_8 x21 M22))))))))))) else (kx5 x1 M3)))
def w_X7_sumIn (N : Nat) (M : jM) (o : Int) (a1 : Int) (a2 : Int) (k : Int → jM → Prop) : Prop := (lp_X7_sumIn_5 N o a1 a2 (fun (x4 : Int) (M5 : jM) => (k x4 M5)) N 0 0 M)
set_option maxHeartbeats 4000000 in
set_option maxRecDepth 100000 in
theorem m_X7_sumIn {l : Launch} {G : jG} {N : Nat} {M : jM} {o a1 a2 : Int} {k : Int → jM → Prop} (o_M : jOK M) (k_o : jK o = 8) (r_a1 : jR a1) (r_a2 : jR a2) (h : w_X7_sumIn N M o a1 a2 k) : Met l yX7_sumIn (wsG yX7_sumIn cX7_sumIn 7 (some .int)) (rmm 5 114) (jPc G M [.ref (jD G o), .int (jI a1), .int (jI a2)]) (qI G k) 0 0 (gA G) := by
  refine jm_start RX7 rfl (by decide) (Nat.le_of_ble_eq_true rfl) o_M ?_
  intro p e s m args below meth c ls C hr hlocks hl B
  have hl : lv_has ls 7 [(0, .ref (jD G o)), (1, .int (jI a1)), (2, .int (jI a2))] := hl
  unfold w_X7_sumIn at h
  refine jr_iconst C dX7_sumIn_0 ?_
  refine lv_istore_n (lv' := [(3, .int (jI 0)), (0, .ref (jD G o)), (1, .int (jI a1)), (2, .int (jI a2))]) C.1 C.2.1 dX7_sumIn_1 rfl hl (by decide) rfl (fun ls hl => ?_)
  refine jr_iconst C dX7_sumIn_2 ?_
  refine lv_istore (lv' := [(4, .int (jI 0)), (3, .int (jI 0)), (0, .ref (jD G o)), (1, .int (jI a1)), (2, .int (jI a2))]) C.1 C.2.1 dX7_sumIn_3 hl (by decide) rfl (fun ls hl => ?_)
  obtain ⟨kx5, hkx5, h⟩ : ∃ kx5 : Int → jM → Prop, (∀ (x4 : Int) (M5 : jM) (H : Heap) (locs : List Loc) (ls : Array Slot), kx5 x4 M5 → jR x4 → Hp G M5 s.heap H locs → lv_has ls 7 [(3, .int (jI x4))] → W p l e (rmm 5 114) s m args below meth c H locs 0 0 (MQ below (qI G k) args s 0 0 (gA G)) (F0 m 80 ls [])) ∧ lp_X7_sumIn_5 N o a1 a2 kx5 N 0 0 M := by
    refine ⟨_, ?_, h⟩
    intro x4 M5 H locs ls h r_x4 B hl
    have o_M5 := B.2.2
    refine lv_iload_n C.1 C.2.1 dX7_sumIn_80 rfl (lv_at hl 0 rfl) ?_
    exact jr_iret C B hr hlocks r_x4 h dX7_sumIn_81
  have hL5 : ∀ (n : Nat) (x1 : Int) (x2 : Int) (M3 : jM) (H : Heap) (locs : List Loc) (ls : Array Slot), lp_X7_sumIn_5 N o a1 a2 kx5 n x1 x2 M3 → jR x1 → jR x2 → Hp G M3 s.heap H locs → lv_has ls 7 [(3, .int (jI x1)), (4, .int (jI x2)), (0, .ref (jD G o)), (1, .int (jI a1)), (2, .int (jI a2))] → W p l e (rmm 5 114) s m args below meth c H locs 0 0 (MQ below (qI G k) args s 0 0 (gA G)) (F0 m 5 ls []) := by
    intro n
    induction n with
    | zero => intro x1 x2 M3 H locs ls h; exact (show False from h).elim
    | succ n ih5 =>
      intro x1 x2 M3 H locs ls h r_x1 r_x2 B hl
      have o_M3 := B.2.2
      rw [lp_X7_sumIn_5] at h
      refine lv_iload C.1 C.2.1 dX7_sumIn_5 (lv_at hl 1 rfl) ?_
      refine lv_aload_n C.1 C.2.1 dX7_sumIn_7 rfl (lv_at hl 2 rfl) ?_
      refine gf_X7_7 C B k_o dX7_sumIn_8 ?_
      refine jr_iconst C dX7_sumIn_11 ?_
      obtain ⟨g6, h⟩ := h
      refine jr_iald C B 1115 (jk1 (ko_X7_0 k_o) rfl) (jk2 (ko_X7_0 k_o) rfl) (jkc rfl) g6 dX7_sumIn_12 ?_
      refine jr_icmp_ge (tgt := 80) C r_x2 (o_M3 (o + 1) 0).1 h dX7_sumIn_13 (by decide) (fun hc13 h => ?_) (fun hc13 h => ?_)
      · refine lv_iload_n C.1 C.2.1 dX7_sumIn_16 rfl (lv_at hl 4 rfl) ?_
        obtain ⟨j17_8, hj17_8, h⟩ := jx_join (P := fun j17_8 : Int → jM → Prop => ∀ (x7 : Int) (M9 : jM) (H : Heap) (locs : List Loc) (ls : Array Slot), j17_8 x7 M9 → jR x7 → Hp G M9 s.heap H locs → lv_has ls 7 [(3, .int (jI x1)), (4, .int (jI x2)), (0, .ref (jD G o)), (1, .int (jI a1)), (2, .int (jI a2))] → W p l e (rmm 5 114) s m args below meth c H locs 0 0 (MQ below (qI G k) args s 0 0 (gA G)) (F0 m 46 ls [.int (jI x7)])) h (by
          intro x7 M9 H locs ls h r_x7 B hl
          have o_M9 := B.2.2
          refine lv_istore (lv' := [(5, .int (jI x7)), (3, .int (jI x1)), (4, .int (jI x2)), (0, .ref (jD G o)), (1, .int (jI a1)), (2, .int (jI a2))]) C.1 C.2.1 dX7_sumIn_46 hl (by decide) rfl (fun ls hl => ?_)
          refine jr_iconst C dX7_sumIn_48 ?_
          refine lv_istore (lv' := [(6, .int (jI 0)), (5, .int (jI x7)), (3, .int (jI x1)), (4, .int (jI x2)), (0, .ref (jD G o)), (1, .int (jI a1)), (2, .int (jI a2))]) C.1 C.2.1 dX7_sumIn_49 hl (by decide) rfl (fun ls hl => ?_)
          obtain ⟨kx51, hkx51, h⟩ : ∃ kx51 : Int → Prop, (∀ (x12 : Int) (H : Heap) (locs : List Loc) (ls : Array Slot), kx51 x12 → jR x12 → Hp G M9 s.heap H locs → lv_has ls 7 [(3, .int (jI x12)), (4, .int (jI x2)), (0, .ref (jD G o)), (1, .int (jI a1)), (2, .int (jI a2))] → W p l e (rmm 5 114) s m args below meth c H locs 0 0 (MQ below (qI G k) args s 0 0 (gA G)) (F0 m 74 ls [])) ∧ lp_X7_sumIn_51 o x7 M9 kx51 N x1 0 := by
            refine ⟨_, ?_, h⟩
            intro x12 H locs ls h r_x12 B hl
            refine jr_iinc (k := 1) (lv' := fun x13 => [(4, .int (jI x13)), (3, .int (jI x12)), (0, .ref (jD G o)), (1, .int (jI a1)), (2, .int (jI a2))]) C h hl rfl (by decide) (fun _ => rfl) dX7_sumIn_74 (fun x13 h r_x13 ls hl => ?_)
            refine lv_goto (tgt := 5) C.1 C.2.1 dX7_sumIn_77 (by decide) ?_
            exact ih5 _ _ _ _ _ _ h r_x12 r_x13 B (lv_sub hl [1, 0, 2, 3, 4] rfl)
          have hL51 : ∀ (n : Nat) (x10 : Int) (x11 : Int) (H : Heap) (locs : List Loc) (ls : Array Slot), lp_X7_sumIn_51 o x7 M9 kx51 n x10 x11 → jR x10 → jR x11 → Hp G M9 s.heap H locs → lv_has ls 7 [(3, .int (jI x10)), (6, .int (jI x11)), (5, .int (jI x7)), (4, .int (jI x2)), (0, .ref (jD G o)), (1, .int (jI a1)), (2, .int (jI a2))] → W p l e (rmm 5 114) s m args below meth c H locs 0 0 (MQ below (qI G k) args s 0 0 (gA G)) (F0 m 51 ls []) := by
            intro n
            induction n with
            | zero => intro x10 x11 H locs ls h; exact (show False from h).elim
            | succ n ih51 =>
              intro x10 x11 H locs ls h r_x10 r_x11 B hl
              rw [lp_X7_sumIn_51] at h
              refine lv_iload C.1 C.2.1 dX7_sumIn_51 (lv_at hl 1 rfl) ?_
              refine lv_iload C.1 C.2.1 dX7_sumIn_53 (lv_at hl 2 rfl) ?_
              refine jr_icmp_ge (tgt := 74) C r_x11 r_x7 h dX7_sumIn_55 (by decide) (fun hc55 h => ?_) (fun hc55 h => ?_)
              · refine lv_iload_n C.1 C.2.1 dX7_sumIn_58 rfl (lv_at hl 0 rfl) ?_
                refine lv_aload_n C.1 C.2.1 dX7_sumIn_59 rfl (lv_at hl 4 rfl) ?_
                refine gf_X7_25 C B k_o dX7_sumIn_60 ?_
                refine lv_iload C.1 C.2.1 dX7_sumIn_63 (lv_at hl 1 rfl) ?_
                obtain ⟨g14, h⟩ := h
                refine jr_iald C B 20 (jk1 (ko_X7_10 k_o) rfl) (jk2 (ko_X7_10 k_o) rfl) r_x11 g14 dX7_sumIn_65 ?_
                refine jr_iadd C dX7_sumIn_66 ?_
                refine jr_nm h (jW_R _) (fun x15 h r_x15 => ?_)
                refine lv_istore_n (lv' := [(3, .int (jI x15)), (6, .int (jI x11)), (5, .int (jI x7)), (4, .int (jI x2)), (0, .ref (jD G o)), (1, .int (jI a1)), (2, .int (jI a2))]) C.1 C.2.1 dX7_sumIn_67 rfl hl (by decide) rfl (fun ls hl => ?_)
                refine jr_iinc (k := 1) (lv' := fun x16 => [(6, .int (jI x16)), (3, .int (jI x15)), (5, .int (jI x7)), (4, .int (jI x2)), (0, .ref (jD G o)), (1, .int (jI a1)), (2, .int (jI a2))]) C h hl rfl (by decide) (fun _ => rfl) dX7_sumIn_68 (fun x16 h r_x16 ls hl => ?_)
                refine lv_goto (tgt := 51) C.1 C.2.1 dX7_sumIn_71 (by decide) ?_
                exact ih51 _ _ _ _ _ h r_x15 r_x16 B (lv_sub hl [1, 0, 2, 3, 4, 5, 6] rfl)
              · exact hkx51 _ _ _ _ h r_x10 B (lv_sub hl [0, 3, 4, 5, 6] rfl)
          exact hL51 N _ _ _ _ _ h r_x1 (jkc rfl) B (lv_sub hl [2, 0, 1, 3, 4, 5, 6] rfl))
        refine jr_if_lt (tgt := 35) C r_a2 h dX7_sumIn_17 (by decide) (fun hc17 h => ?_) (fun hc17 h => ?_)
        · refine lv_aload_n C.1 C.2.1 dX7_sumIn_35 rfl (lv_at hl 2 rfl) ?_
          refine lv_iload C.1 C.2.1 dX7_sumIn_36 (lv_at hl 1 rfl) ?_
          refine lv_iload_n C.1 C.2.1 dX7_sumIn_38 rfl (lv_at hl 3 rfl) ?_
          refine cl_X7_tells C hl.1 B q_986 ⟨Nat.le_of_ble_eq_true rfl, Nat.le_of_ble_eq_true rfl⟩ ⟨Nat.zero_le _, Nat.zero_le _⟩ (Nat.le_of_ble_eq_true rfl) k_o r_x2 r_a1 h dX7_sumIn_39 (fun x17 M18 r_x17 _ _ h B => ?_)
          have o_M18 := B.2.2
          refine lv_goto (tgt := 46) C.1 C.2.1 dX7_sumIn_42 (by decide) ?_
          exact hj17_8 _ _ _ _ _ h r_x17 B (lv_sub hl [0, 1, 2, 3, 4] rfl)
        · refine lv_aload_n C.1 C.2.1 dX7_sumIn_20 rfl (lv_at hl 2 rfl) ?_
          refine lv_iload_n C.1 C.2.1 dX7_sumIn_21 rfl (lv_at hl 4 rfl) ?_
          refine lv_aload_n C.1 C.2.1 dX7_sumIn_22 rfl (lv_at hl 2 rfl) ?_
          refine lv_iload C.1 C.2.1 dX7_sumIn_23 (lv_at hl 1 rfl) ?_
          refine jr_iconst C dX7_sumIn_25 ?_
          refine cl_X7_of C hl.1 B q_754 ⟨Nat.le_of_ble_eq_true rfl, Nat.le_of_ble_eq_true rfl⟩ ⟨Nat.zero_le _, Nat.zero_le _⟩ (Nat.le_of_ble_eq_true rfl) k_o r_x2 (jkc rfl) h dX7_sumIn_26 (fun x19 r_x19 _ _ h B => ?_)
          refine cl_X7_isIn C hl.1 B q_1021 ⟨Nat.le_of_ble_eq_true rfl, Nat.le_of_ble_eq_true rfl⟩ ⟨Nat.zero_le _, Nat.zero_le _⟩ (Nat.le_of_ble_eq_true rfl) k_o r_a2 r_x19 h dX7_sumIn_29 (fun x20 z_x20 _ _ h B => ?_)
          refine jr_if_eq (tgt := 45) C (zR z_x20) h dX7_sumIn_32 (by decide) (fun hc32 h => ?_) (fun hc32 h => ?_)
          · refine jr_iconst C dX7_sumIn_45 ?_
            exact hj17_8 _ _ _ _ _ h (jkc rfl) B (lv_sub hl [0, 1, 2, 3, 4] rfl)
          · refine lv_aload_n C.1 C.2.1 dX7_sumIn_35 rfl (lv_at hl 2 rfl) ?_
            refine lv_iload C.1 C.2.1 dX7_sumIn_36 (lv_at hl 1 rfl) ?_
            refine lv_iload_n C.1 C.2.1 dX7_sumIn_38 rfl (lv_at hl 3 rfl) ?_
            refine cl_X7_tells C hl.1 B q_986 ⟨Nat.le_of_ble_eq_true rfl, Nat.le_of_ble_eq_true rfl⟩ ⟨Nat.zero_le _, Nat.zero_le _⟩ (Nat.le_of_ble_eq_true rfl) k_o r_x2 r_a1 h dX7_sumIn_39 (fun x21 M22 r_x21 _ _ h B => ?_)
            have o_M22 := B.2.2
            refine lv_goto (tgt := 46) C.1 C.2.1 dX7_sumIn_42 (by decide) ?_
            exact hj17_8 _ _ _ _ _ h r_x21 B (lv_sub hl [0, 1, 2, 3, 4] rfl)
      · exact hkx5 _ _ _ _ _ h r_x1 B (lv_sub hl [0] rfl)
  exact hL5 N _ _ _ _ _ _ h (jkc rfl) (jkc rfl) B (lv_sub hl [1, 0, 2, 3, 4] rfl)
theorem cl_X7_sumIn {p : Program} {l : Launch} {e : Env} {R : Room} {s : State} {m : MethodId} {args : Array Value} {below : List Frame} {meth : Method} {c : Code} {H : Heap} {locs : List Loc} {cells slots : Nat} {Q : State → Prop} {cc : ByteArray} {nL : Nat} {own : String} {G : jG} {H0 : Heap} {pc idx : Nat} {ls : Array Slot} {rest : List Value} {N : Nat} {M : jM} {o a1 a2 : Int} {k : Int → jM → Prop} (C : Cx G p s args m c cc nL own) (hl : ls.size = nL) (B : Hp G M H0 H locs) (q1 : Cond.methodLink own idx yX7_sumIn ∈ tb) (hR : (rmm 5 114).frames + 1 ≤ R.frames ∧ 8 + (7 + 11) + (rmm 5 114).locals ≤ R.locals) (hcs : cells ≤ R.cells ∧ slots ≤ R.slots) (hW : (rest.map fun v => v.category).sum ≤ 8) (k_o : jK o = 8) (r_a1 : jR a1) (r_a2 : jR a2) (h : w_X7_sumIn N M o a1 a2 k) (hdg : decode cc pc = .ok (.invokevirtual idx, 3)) (kk : ∀ (r : Int) (M' : jM), jR r → ∀ (H1 : Heap) (locs1 : List Loc), k r M' → Hp G M' H0 H1 locs1 → W p l e R s m args below meth c H1 locs1 cells slots Q (F0 m (pc + 3) ls (.int (jI r) :: rest))) : W p l e R s m args below meth c H locs cells slots Q (F0 m pc ls (.int (jI a2) :: .int (jI a1) :: .ref (jD G o) :: rest)) :=
  jr_callI B (jr_runV (o := o) (As := [.int (jI a1), .int (jI a2)]) (n := 2) C hl B (m_X7_sumIn B.2.2 k_o r_a1 r_a2 h) (jE8 k_o) (by omega) rfl q1 q_1119 qs_73 q_1120 q_8 ⟨by decide, by decide, by decide +kernel⟩ rfl ⟨rfl, rfl⟩ hR hcs rfl hW hdg) (fun r M' H1 locs1 hr hk B1 => kk r M' hr H1 locs1 hk B1)
def w_X7_total (N : Nat) (M : jM) (o : Int) (a1 : Int) (a2 : Int) (k : Int → jM → Prop) : Prop := (w_X7_isColumn a1 (fun x1 => (if x1 = 0 then (k (-1000001) M) else (if a2 = (-1) then (w_X7_sumIn N M o a1 a2 (fun x2 M3 => (k x2 M3))) else (w_X7_isList a2 (fun x4 => (if x4 = 0 then (k (-1000001) M) else (w_X7_sumIn N M o a1 a2 (fun x5 M6 => (k x5 M6))))))))))
set_option maxHeartbeats 4000000 in
set_option maxRecDepth 100000 in
theorem m_X7_total {l : Launch} {G : jG} {N : Nat} {M : jM} {o a1 a2 : Int} {k : Int → jM → Prop} (o_M : jOK M) (k_o : jK o = 8) (r_a1 : jR a1) (r_a2 : jR a2) (h : w_X7_total N M o a1 a2 k) : Met l yX7_total (wsG yX7_total cX7_total 3 (some .int)) (rmm 6 140) (jPc G M [.ref (jD G o), .int (jI a1), .int (jI a2)]) (qI G k) 0 0 (gA G) := by
  refine jm_start RX7 rfl (by decide) (Nat.le_of_ble_eq_true rfl) o_M ?_
  intro p e s m args below meth c ls C hr hlocks hl B
  have hl : lv_has ls 3 [(0, .ref (jD G o)), (1, .int (jI a1)), (2, .int (jI a2))] := hl
  unfold w_X7_total at h
  refine lv_iload_n C.1 C.2.1 dX7_total_0 rfl (lv_at hl 1 rfl) ?_
  refine cl_X7_isColumn C hl.1 B q_962 ⟨Nat.le_of_ble_eq_true rfl, Nat.le_of_ble_eq_true rfl⟩ ⟨Nat.zero_le _, Nat.zero_le _⟩ (Nat.le_of_ble_eq_true rfl) r_a1 h dX7_total_1 (fun x1 z_x1 _ _ h B => ?_)
  refine jr_if_eq (tgt := 28) C (zR z_x1) h dX7_total_4 (by decide) (fun hc4 h => ?_) (fun hc4 h => ?_)
  · refine jr_ldc (n := -1000001) C q_753 (by decide) dX7_total_28 ?_
    exact jr_iret C B hr hlocks (jkc rfl) h dX7_total_30
  · refine lv_iload_n C.1 C.2.1 dX7_total_7 rfl (lv_at hl 2 rfl) ?_
    refine jr_iconst C dX7_total_8 ?_
    refine jr_icmp_eq (tgt := 19) C r_a2 (jkc rfl) h dX7_total_9 (by decide) (fun hc9 h => ?_) (fun hc9 h => ?_)
    · refine lv_aload_n C.1 C.2.1 dX7_total_19 rfl (lv_at hl 0 rfl) ?_
      refine lv_iload_n C.1 C.2.1 dX7_total_20 rfl (lv_at hl 1 rfl) ?_
      refine lv_iload_n C.1 C.2.1 dX7_total_21 rfl (lv_at hl 2 rfl) ?_
      refine cl_X7_sumIn C hl.1 B q_1117 ⟨Nat.le_of_ble_eq_true rfl, Nat.le_of_ble_eq_true rfl⟩ ⟨Nat.zero_le _, Nat.zero_le _⟩ (Nat.le_of_ble_eq_true rfl) k_o r_a1 r_a2 h dX7_total_22 (fun x2 M3 r_x2 _ _ h B => ?_)
      have o_M3 := B.2.2
      refine lv_goto (tgt := 30) C.1 C.2.1 dX7_total_25 (by decide) ?_
      exact jr_iret C B hr hlocks r_x2 h dX7_total_30
    · refine lv_iload_n C.1 C.2.1 dX7_total_12 rfl (lv_at hl 2 rfl) ?_
      refine cl_X7_isList C hl.1 B q_977 ⟨Nat.le_of_ble_eq_true rfl, Nat.le_of_ble_eq_true rfl⟩ ⟨Nat.zero_le _, Nat.zero_le _⟩ (Nat.le_of_ble_eq_true rfl) r_a2 h dX7_total_13 (fun x4 z_x4 _ _ h B => ?_)
      refine jr_if_eq (tgt := 28) C (zR z_x4) h dX7_total_16 (by decide) (fun hc16 h => ?_) (fun hc16 h => ?_)
      · refine jr_ldc (n := -1000001) C q_753 (by decide) dX7_total_28 ?_
        exact jr_iret C B hr hlocks (jkc rfl) h dX7_total_30
      · refine lv_aload_n C.1 C.2.1 dX7_total_19 rfl (lv_at hl 0 rfl) ?_
        refine lv_iload_n C.1 C.2.1 dX7_total_20 rfl (lv_at hl 1 rfl) ?_
        refine lv_iload_n C.1 C.2.1 dX7_total_21 rfl (lv_at hl 2 rfl) ?_
        refine cl_X7_sumIn C hl.1 B q_1117 ⟨Nat.le_of_ble_eq_true rfl, Nat.le_of_ble_eq_true rfl⟩ ⟨Nat.zero_le _, Nat.zero_le _⟩ (Nat.le_of_ble_eq_true rfl) k_o r_a1 r_a2 h dX7_total_22 (fun x5 M6 r_x5 _ _ h B => ?_)
        have o_M6 := B.2.2
        refine lv_goto (tgt := 30) C.1 C.2.1 dX7_total_25 (by decide) ?_
        exact jr_iret C B hr hlocks r_x5 h dX7_total_30
theorem cl_X7_total {p : Program} {l : Launch} {e : Env} {R : Room} {s : State} {m : MethodId} {args : Array Value} {below : List Frame} {meth : Method} {c : Code} {H : Heap} {locs : List Loc} {cells slots : Nat} {Q : State → Prop} {cc : ByteArray} {nL : Nat} {own : String} {G : jG} {H0 : Heap} {pc idx : Nat} {ls : Array Slot} {rest : List Value} {N : Nat} {M : jM} {o a1 a2 : Int} {k : Int → jM → Prop} (C : Cx G p s args m c cc nL own) (hl : ls.size = nL) (B : Hp G M H0 H locs) (q1 : Cond.methodLink own idx yX7_total ∈ tb) (hR : (rmm 6 140).frames + 1 ≤ R.frames ∧ 8 + (3 + 11) + (rmm 6 140).locals ≤ R.locals) (hcs : cells ≤ R.cells ∧ slots ≤ R.slots) (hW : (rest.map fun v => v.category).sum ≤ 8) (k_o : jK o = 8) (r_a1 : jR a1) (r_a2 : jR a2) (h : w_X7_total N M o a1 a2 k) (hdg : decode cc pc = .ok (.invokevirtual idx, 3)) (kk : ∀ (r : Int) (M' : jM), jR r → ∀ (H1 : Heap) (locs1 : List Loc), k r M' → Hp G M' H0 H1 locs1 → W p l e R s m args below meth c H1 locs1 cells slots Q (F0 m (pc + 3) ls (.int (jI r) :: rest))) : W p l e R s m args below meth c H locs cells slots Q (F0 m pc ls (.int (jI a2) :: .int (jI a1) :: .ref (jD G o) :: rest)) :=
  jr_callI B (jr_runV (o := o) (As := [.int (jI a1), .int (jI a2)]) (n := 2) C hl B (m_X7_total B.2.2 k_o r_a1 r_a2 h) (jE8 k_o) (by omega) rfl q1 q_1114 q_1115 q_1116 q_8 ⟨by decide, by decide, by decide +kernel⟩ rfl ⟨rfl, rfl⟩ hR hcs rfl hW hdg) (fun r M' H1 locs1 hr hk B1 => kk r M' hr H1 locs1 hk B1)
def lp_X7_repeated_36 (o : Int) (x2 : Int) (x5 : Int) (M3 : jM) (kx36 : Int → Int → Prop) : Nat → Int → Int → Int → Prop
  | 0, _, _, _ => False
  | n + 1, x7, x8, x9 => (if x9 < x2 then (jL (fun (x18 : Int) => (jL (jW (x7 + x18)) (fun x20 => (if x9 ≤ x5 then (jL (jW (x8 + 0)) (fun x21 => (jL (jW (x9 + 1)) (fun x22 => (lp_X7_repeated_36 o x2 x5 M3 kx36 n x20 x21 x22))))) else (jB x9 200 ∧ (jB x5 200 ∧ (if (M3 (o + 7) x9) = (M3 (o + 7) x5) then (jL (jW (x8 + 1)) (fun x25 => (jL (jW (x9 + 1)) (fun x26 => (lp_X7_repeated_36 o x2 x5 M3 kx36 n x20 x25 x26))))) else (jL (jW (x8 + 0)) (fun x27 => (jL (jW (x9 + 1)) (fun x28 => (lp_X7_repeated_36 o x2 x5 M3 kx36 n x20 x27 x28)))))))))))) (fun j48_19 => (if x9 < x5 then (jB x9 200 ∧ (jB x5 200 ∧ (if (M3 (o + 7) x9) = (M3 (o + 7) x5) then (j48_19 1) else (j48_19 0)))) else (j48_19 0)))) else (kx36 x7 x8))
def lp_X7_repeated_21 (N : Nat) (o : Int) (x2 : Int) (M3 : jM) (kx21 : Int → Prop) : Nat → Int → Int → Prop
  | 0, _, _ => False
  | n + 1, x4, x5 => (if x5 < x2 then (lp_X7_repeated_36 o x2 x5 M3 (fun (x10 : Int) (x11 : Int) => (if x10 = 0 then (if x11 ≤ 0 then (jL (jW (x4 + 0)) (fun x12 => (jL (jW (x5 + 1)) (fun x13 => (lp_X7_repeated_21 N o x2 M3 kx21 n x12 x13))))) else (jL (jW (x4 + 1)) (fun x14 => (jL (jW (x5 + 1)) (fun x15 => (lp_X7_repeated_21 N o x2 M3 kx21 n x14 x15)))))) else (jL (jW (x4 + 0)) (fun x16 => (jL (jW (x5 + 1)) (fun x17 => (lp_X7_repeated_21 N o x2 M3 kx21 n x16 x17))))))) N 0 0 0) else (kx21 x4))
def w_X7_repeated (N : Nat) (M : jM) (o : Int) (a1 : Int) (k : Int → jM → Prop) : Prop := (w_X7_isColumn a1 (fun x1 => (if x1 = 0 then (k (-1000001) M) else (w_X7_laysEntries N M o a1 (fun x2 M3 => (lp_X7_repeated_21 N o x2 M3 (fun (x6 : Int) => (k x6 M3)) N 0 0))))))
set_option maxHeartbeats 4000000 in
set_option maxRecDepth 100000 in
theorem m_X7_repeated {l : Launch} {G : jG} {N : Nat} {M : jM} {o a1 : Int} {k : Int → jM → Prop} (o_M : jOK M) (k_o : jK o = 8) (r_a1 : jR a1) (h : w_X7_repeated N M o a1 k) : Met l yX7_repeated (wsG yX7_repeated cX7_repeated 8 (some .int)) (rmm 6 139) (jPc G M [.ref (jD G o), .int (jI a1)]) (qI G k) 0 0 (gA G) := by
  refine jm_start RX7 rfl (by decide) (Nat.le_of_ble_eq_true rfl) o_M ?_
  intro p e s m args below meth c ls C hr hlocks hl B
  have hl : lv_has ls 8 [(0, .ref (jD G o)), (1, .int (jI a1))] := hl
  unfold w_X7_repeated at h
  refine lv_iload_n C.1 C.2.1 dX7_repeated_0 rfl (lv_at hl 1 rfl) ?_
  refine cl_X7_isColumn C hl.1 B q_962 ⟨Nat.le_of_ble_eq_true rfl, Nat.le_of_ble_eq_true rfl⟩ ⟨Nat.zero_le _, Nat.zero_le _⟩ (Nat.le_of_ble_eq_true rfl) r_a1 h dX7_repeated_1 (fun x1 z_x1 _ _ h B => ?_)
  refine jr_if_ne (tgt := 10) C (zR z_x1) h dX7_repeated_4 (by decide) (fun hc4 h => ?_) (fun hc4 h => ?_)
  · refine jr_ldc (n := -1000001) C q_753 (by decide) dX7_repeated_7 ?_
    exact jr_iret C B hr hlocks (jkc rfl) h dX7_repeated_9
  · refine lv_aload_n C.1 C.2.1 dX7_repeated_10 rfl (lv_at hl 0 rfl) ?_
    refine lv_iload_n C.1 C.2.1 dX7_repeated_11 rfl (lv_at hl 1 rfl) ?_
    refine cl_X7_laysEntries C hl.1 B q_1101 ⟨Nat.le_of_ble_eq_true rfl, Nat.le_of_ble_eq_true rfl⟩ ⟨Nat.zero_le _, Nat.zero_le _⟩ (Nat.le_of_ble_eq_true rfl) k_o r_a1 h dX7_repeated_12 (fun x2 M3 r_x2 _ _ h B => ?_)
    have o_M3 := B.2.2
    refine lv_istore_n (lv' := [(2, .int (jI x2)), (0, .ref (jD G o)), (1, .int (jI a1))]) C.1 C.2.1 dX7_repeated_15 rfl hl (by decide) rfl (fun ls hl => ?_)
    refine jr_iconst C dX7_repeated_16 ?_
    refine lv_istore_n (lv' := [(3, .int (jI 0)), (2, .int (jI x2)), (0, .ref (jD G o)), (1, .int (jI a1))]) C.1 C.2.1 dX7_repeated_17 rfl hl (by decide) rfl (fun ls hl => ?_)
    refine jr_iconst C dX7_repeated_18 ?_
    refine lv_istore (lv' := [(4, .int (jI 0)), (3, .int (jI 0)), (2, .int (jI x2)), (0, .ref (jD G o)), (1, .int (jI a1))]) C.1 C.2.1 dX7_repeated_19 hl (by decide) rfl (fun ls hl => ?_)
    obtain ⟨kx21, hkx21, h⟩ : ∃ kx21 : Int → Prop, (∀ (x6 : Int) (H : Heap) (locs : List Loc) (ls : Array Slot), kx21 x6 → jR x6 → Hp G M3 s.heap H locs → lv_has ls 8 [(3, .int (jI x6))] → W p l e (rmm 6 139) s m args below meth c H locs 0 0 (MQ below (qI G k) args s 0 0 (gA G)) (F0 m 140 ls [])) ∧ lp_X7_repeated_21 N o x2 M3 kx21 N 0 0 := by
      refine ⟨_, ?_, h⟩
      intro x6 H locs ls h r_x6 B hl
      refine lv_iload_n C.1 C.2.1 dX7_repeated_140 rfl (lv_at hl 0 rfl) ?_
      exact jr_iret C B hr hlocks r_x6 h dX7_repeated_141
    have hL21 : ∀ (n : Nat) (x4 : Int) (x5 : Int) (H : Heap) (locs : List Loc) (ls : Array Slot), lp_X7_repeated_21 N o x2 M3 kx21 n x4 x5 → jR x4 → jR x5 → Hp G M3 s.heap H locs → lv_has ls 8 [(3, .int (jI x4)), (4, .int (jI x5)), (2, .int (jI x2)), (0, .ref (jD G o))] → W p l e (rmm 6 139) s m args below meth c H locs 0 0 (MQ below (qI G k) args s 0 0 (gA G)) (F0 m 21 ls []) := by
      intro n
      induction n with
      | zero => intro x4 x5 H locs ls h; exact (show False from h).elim
      | succ n ih21 =>
        intro x4 x5 H locs ls h r_x4 r_x5 B hl
        rw [lp_X7_repeated_21] at h
        refine lv_iload C.1 C.2.1 dX7_repeated_21 (lv_at hl 1 rfl) ?_
        refine lv_iload_n C.1 C.2.1 dX7_repeated_23 rfl (lv_at hl 2 rfl) ?_
        refine jr_icmp_ge (tgt := 140) C r_x5 r_x2 h dX7_repeated_24 (by decide) (fun hc24 h => ?_) (fun hc24 h => ?_)
        · refine jr_iconst C dX7_repeated_27 ?_
          refine lv_istore (lv' := [(5, .int (jI 0)), (3, .int (jI x4)), (4, .int (jI x5)), (2, .int (jI x2)), (0, .ref (jD G o))]) C.1 C.2.1 dX7_repeated_28 hl (by decide) rfl (fun ls hl => ?_)
          refine jr_iconst C dX7_repeated_30 ?_
          refine lv_istore (lv' := [(6, .int (jI 0)), (5, .int (jI 0)), (3, .int (jI x4)), (4, .int (jI x5)), (2, .int (jI x2)), (0, .ref (jD G o))]) C.1 C.2.1 dX7_repeated_31 hl (by decide) rfl (fun ls hl => ?_)
          refine jr_iconst C dX7_repeated_33 ?_
          refine lv_istore (lv' := [(7, .int (jI 0)), (6, .int (jI 0)), (5, .int (jI 0)), (3, .int (jI x4)), (4, .int (jI x5)), (2, .int (jI x2)), (0, .ref (jD G o))]) C.1 C.2.1 dX7_repeated_34 hl (by decide) rfl (fun ls hl => ?_)
          obtain ⟨kx36, hkx36, h⟩ : ∃ kx36 : Int → Int → Prop, (∀ (x10 : Int) (x11 : Int) (H : Heap) (locs : List Loc) (ls : Array Slot), kx36 x10 x11 → jR x10 → jR x11 → Hp G M3 s.heap H locs → lv_has ls 8 [(5, .int (jI x10)), (6, .int (jI x11)), (3, .int (jI x4)), (4, .int (jI x5)), (2, .int (jI x2)), (0, .ref (jD G o))] → W p l e (rmm 6 139) s m args below meth c H locs 0 0 (MQ below (qI G k) args s 0 0 (gA G)) (F0 m 116 ls [])) ∧ lp_X7_repeated_36 o x2 x5 M3 kx36 N 0 0 0 := by
            refine ⟨_, ?_, h⟩
            intro x10 x11 H locs ls h r_x10 r_x11 B hl
            refine lv_iload_n C.1 C.2.1 dX7_repeated_116 rfl (lv_at hl 2 rfl) ?_
            refine lv_iload C.1 C.2.1 dX7_repeated_117 (lv_at hl 0 rfl) ?_
            refine jr_if_ne (tgt := 131) C r_x10 h dX7_repeated_119 (by decide) (fun hc119 h => ?_) (fun hc119 h => ?_)
            · refine lv_iload C.1 C.2.1 dX7_repeated_122 (lv_at hl 1 rfl) ?_
              refine jr_if_le (tgt := 131) C r_x11 h dX7_repeated_124 (by decide) (fun hc124 h => ?_) (fun hc124 h => ?_)
              · refine jr_iconst C dX7_repeated_131 ?_
                refine jr_iadd C dX7_repeated_132 ?_
                refine jr_nm h (jW_R _) (fun x12 h r_x12 => ?_)
                refine lv_istore_n (lv' := [(3, .int (jI x12)), (5, .int (jI x10)), (6, .int (jI x11)), (4, .int (jI x5)), (2, .int (jI x2)), (0, .ref (jD G o))]) C.1 C.2.1 dX7_repeated_133 rfl hl (by decide) rfl (fun ls hl => ?_)
                refine jr_iinc (k := 3) (lv' := fun x13 => [(4, .int (jI x13)), (3, .int (jI x12)), (5, .int (jI x10)), (6, .int (jI x11)), (2, .int (jI x2)), (0, .ref (jD G o))]) C h hl rfl (by decide) (fun _ => rfl) dX7_repeated_134 (fun x13 h r_x13 ls hl => ?_)
                refine lv_goto (tgt := 21) C.1 C.2.1 dX7_repeated_137 (by decide) ?_
                exact ih21 _ _ _ _ _ h r_x12 r_x13 B (lv_sub hl [1, 0, 4, 5] rfl)
              · refine jr_iconst C dX7_repeated_127 ?_
                refine lv_goto (tgt := 132) C.1 C.2.1 dX7_repeated_128 (by decide) ?_
                refine jr_iadd C dX7_repeated_132 ?_
                refine jr_nm h (jW_R _) (fun x14 h r_x14 => ?_)
                refine lv_istore_n (lv' := [(3, .int (jI x14)), (5, .int (jI x10)), (6, .int (jI x11)), (4, .int (jI x5)), (2, .int (jI x2)), (0, .ref (jD G o))]) C.1 C.2.1 dX7_repeated_133 rfl hl (by decide) rfl (fun ls hl => ?_)
                refine jr_iinc (k := 3) (lv' := fun x15 => [(4, .int (jI x15)), (3, .int (jI x14)), (5, .int (jI x10)), (6, .int (jI x11)), (2, .int (jI x2)), (0, .ref (jD G o))]) C h hl rfl (by decide) (fun _ => rfl) dX7_repeated_134 (fun x15 h r_x15 ls hl => ?_)
                refine lv_goto (tgt := 21) C.1 C.2.1 dX7_repeated_137 (by decide) ?_
                exact ih21 _ _ _ _ _ h r_x14 r_x15 B (lv_sub hl [1, 0, 4, 5] rfl)
            · refine jr_iconst C dX7_repeated_131 ?_
              refine jr_iadd C dX7_repeated_132 ?_
              refine jr_nm h (jW_R _) (fun x16 h r_x16 => ?_)
              refine lv_istore_n (lv' := [(3, .int (jI x16)), (5, .int (jI x10)), (6, .int (jI x11)), (4, .int (jI x5)), (2, .int (jI x2)), (0, .ref (jD G o))]) C.1 C.2.1 dX7_repeated_133 rfl hl (by decide) rfl (fun ls hl => ?_)
              refine jr_iinc (k := 3) (lv' := fun x17 => [(4, .int (jI x17)), (3, .int (jI x16)), (5, .int (jI x10)), (6, .int (jI x11)), (2, .int (jI x2)), (0, .ref (jD G o))]) C h hl rfl (by decide) (fun _ => rfl) dX7_repeated_134 (fun x17 h r_x17 ls hl => ?_)
              refine lv_goto (tgt := 21) C.1 C.2.1 dX7_repeated_137 (by decide) ?_
              exact ih21 _ _ _ _ _ h r_x16 r_x17 B (lv_sub hl [1, 0, 4, 5] rfl)
          have hL36 : ∀ (n : Nat) (x7 : Int) (x8 : Int) (x9 : Int) (H : Heap) (locs : List Loc) (ls : Array Slot), lp_X7_repeated_36 o x2 x5 M3 kx36 n x7 x8 x9 → jR x7 → jR x8 → jR x9 → Hp G M3 s.heap H locs → lv_has ls 8 [(5, .int (jI x7)), (6, .int (jI x8)), (7, .int (jI x9)), (3, .int (jI x4)), (4, .int (jI x5)), (2, .int (jI x2)), (0, .ref (jD G o))] → W p l e (rmm 6 139) s m args below meth c H locs 0 0 (MQ below (qI G k) args s 0 0 (gA G)) (F0 m 36 ls []) := by
            intro n
            induction n with
            | zero => intro x7 x8 x9 H locs ls h; exact (show False from h).elim
            | succ n ih36 =>
              intro x7 x8 x9 H locs ls h r_x7 r_x8 r_x9 B hl
              rw [lp_X7_repeated_36] at h
              refine lv_iload C.1 C.2.1 dX7_repeated_36 (lv_at hl 2 rfl) ?_
              refine lv_iload_n C.1 C.2.1 dX7_repeated_38 rfl (lv_at hl 5 rfl) ?_
              refine jr_icmp_ge (tgt := 116) C r_x9 r_x2 h dX7_repeated_39 (by decide) (fun hc39 h => ?_) (fun hc39 h => ?_)
              · refine lv_iload C.1 C.2.1 dX7_repeated_42 (lv_at hl 0 rfl) ?_
                refine lv_iload C.1 C.2.1 dX7_repeated_44 (lv_at hl 2 rfl) ?_
                refine lv_iload C.1 C.2.1 dX7_repeated_46 (lv_at hl 4 rfl) ?_
                obtain ⟨j48_19, hj48_19, h⟩ := jx_join (P := fun j48_19 : Int → Prop => ∀ (x18 : Int) (H : Heap) (locs : List Loc) (ls : Array Slot), j48_19 x18 → (x18 = 0 ∨ x18 = 1) → Hp G M3 s.heap H locs → lv_has ls 8 [(6, .int (jI x8)), (7, .int (jI x9)), (3, .int (jI x4)), (4, .int (jI x5)), (2, .int (jI x2)), (0, .ref (jD G o))] → W p l e (rmm 6 139) s m args below meth c H locs 0 0 (MQ below (qI G k) args s 0 0 (gA G)) (F0 m 73 ls [.int (jI x18), .int (jI x7)])) h (by
                  intro x18 H locs ls h z_x18 B hl
                  refine jr_iadd C dX7_repeated_73 ?_
                  refine jr_nm h (jW_R _) (fun x20 h r_x20 => ?_)
                  refine lv_istore (lv' := [(5, .int (jI x20)), (6, .int (jI x8)), (7, .int (jI x9)), (3, .int (jI x4)), (4, .int (jI x5)), (2, .int (jI x2)), (0, .ref (jD G o))]) C.1 C.2.1 dX7_repeated_74 hl (by decide) rfl (fun ls hl => ?_)
                  refine lv_iload C.1 C.2.1 dX7_repeated_76 (lv_at hl 1 rfl) ?_
                  refine lv_iload C.1 C.2.1 dX7_repeated_78 (lv_at hl 2 rfl) ?_
                  refine lv_iload C.1 C.2.1 dX7_repeated_80 (lv_at hl 4 rfl) ?_
                  refine jr_icmp_le (tgt := 106) C r_x9 r_x5 h dX7_repeated_82 (by decide) (fun hc82 h => ?_) (fun hc82 h => ?_)
                  · refine jr_iconst C dX7_repeated_106 ?_
                    refine jr_iadd C dX7_repeated_107 ?_
                    refine jr_nm h (jW_R _) (fun x21 h r_x21 => ?_)
                    refine lv_istore (lv' := [(6, .int (jI x21)), (5, .int (jI x20)), (7, .int (jI x9)), (3, .int (jI x4)), (4, .int (jI x5)), (2, .int (jI x2)), (0, .ref (jD G o))]) C.1 C.2.1 dX7_repeated_108 hl (by decide) rfl (fun ls hl => ?_)
                    refine jr_iinc (k := 2) (lv' := fun x22 => [(7, .int (jI x22)), (6, .int (jI x21)), (5, .int (jI x20)), (3, .int (jI x4)), (4, .int (jI x5)), (2, .int (jI x2)), (0, .ref (jD G o))]) C h hl rfl (by decide) (fun _ => rfl) dX7_repeated_110 (fun x22 h r_x22 ls hl => ?_)
                    refine lv_goto (tgt := 36) C.1 C.2.1 dX7_repeated_113 (by decide) ?_
                    exact ih36 _ _ _ _ _ _ h r_x20 r_x21 r_x22 B (lv_sub hl [2, 1, 0, 3, 4, 5, 6] rfl)
                  · refine lv_aload_n C.1 C.2.1 dX7_repeated_85 rfl (lv_at hl 6 rfl) ?_
                    refine gf_X7_28 C B k_o dX7_repeated_86 ?_
                    refine lv_iload C.1 C.2.1 dX7_repeated_89 (lv_at hl 2 rfl) ?_
                    obtain ⟨g23, h⟩ := h
                    refine jr_iald C B 200 (jk1 (ko_X7_12 k_o) rfl) (jk2 (ko_X7_12 k_o) rfl) r_x9 g23 dX7_repeated_91 ?_
                    refine lv_aload_n C.1 C.2.1 dX7_repeated_92 rfl (lv_at hl 6 rfl) ?_
                    refine gf_X7_28 C B k_o dX7_repeated_93 ?_
                    refine lv_iload C.1 C.2.1 dX7_repeated_96 (lv_at hl 4 rfl) ?_
                    obtain ⟨g24, h⟩ := h
                    refine jr_iald C B 200 (jk1 (ko_X7_12 k_o) rfl) (jk2 (ko_X7_12 k_o) rfl) r_x5 g24 dX7_repeated_98 ?_
                    refine jr_icmp_ne (tgt := 106) C (o_M3 (o + 7) x9).1 (o_M3 (o + 7) x5).1 h dX7_repeated_99 (by decide) (fun hc99 h => ?_) (fun hc99 h => ?_)
                    · refine jr_iconst C dX7_repeated_102 ?_
                      refine lv_goto (tgt := 107) C.1 C.2.1 dX7_repeated_103 (by decide) ?_
                      refine jr_iadd C dX7_repeated_107 ?_
                      refine jr_nm h (jW_R _) (fun x25 h r_x25 => ?_)
                      refine lv_istore (lv' := [(6, .int (jI x25)), (5, .int (jI x20)), (7, .int (jI x9)), (3, .int (jI x4)), (4, .int (jI x5)), (2, .int (jI x2)), (0, .ref (jD G o))]) C.1 C.2.1 dX7_repeated_108 hl (by decide) rfl (fun ls hl => ?_)
                      refine jr_iinc (k := 2) (lv' := fun x26 => [(7, .int (jI x26)), (6, .int (jI x25)), (5, .int (jI x20)), (3, .int (jI x4)), (4, .int (jI x5)), (2, .int (jI x2)), (0, .ref (jD G o))]) C h hl rfl (by decide) (fun _ => rfl) dX7_repeated_110 (fun x26 h r_x26 ls hl => ?_)
                      refine lv_goto (tgt := 36) C.1 C.2.1 dX7_repeated_113 (by decide) ?_
                      exact ih36 _ _ _ _ _ _ h r_x20 r_x25 r_x26 B (lv_sub hl [2, 1, 0, 3, 4, 5, 6] rfl)
                    · refine jr_iconst C dX7_repeated_106 ?_
                      refine jr_iadd C dX7_repeated_107 ?_
                      refine jr_nm h (jW_R _) (fun x27 h r_x27 => ?_)
                      refine lv_istore (lv' := [(6, .int (jI x27)), (5, .int (jI x20)), (7, .int (jI x9)), (3, .int (jI x4)), (4, .int (jI x5)), (2, .int (jI x2)), (0, .ref (jD G o))]) C.1 C.2.1 dX7_repeated_108 hl (by decide) rfl (fun ls hl => ?_)
                      refine jr_iinc (k := 2) (lv' := fun x28 => [(7, .int (jI x28)), (6, .int (jI x27)), (5, .int (jI x20)), (3, .int (jI x4)), (4, .int (jI x5)), (2, .int (jI x2)), (0, .ref (jD G o))]) C h hl rfl (by decide) (fun _ => rfl) dX7_repeated_110 (fun x28 h r_x28 ls hl => ?_)
                      refine lv_goto (tgt := 36) C.1 C.2.1 dX7_repeated_113 (by decide) ?_
                      exact ih36 _ _ _ _ _ _ h r_x20 r_x27 r_x28 B (lv_sub hl [2, 1, 0, 3, 4, 5, 6] rfl))
                refine jr_icmp_ge (tgt := 72) C r_x9 r_x5 h dX7_repeated_48 (by decide) (fun hc48 h => ?_) (fun hc48 h => ?_)
                · refine lv_aload_n C.1 C.2.1 dX7_repeated_51 rfl (lv_at hl 6 rfl) ?_
                  refine gf_X7_28 C B k_o dX7_repeated_52 ?_
                  refine lv_iload C.1 C.2.1 dX7_repeated_55 (lv_at hl 2 rfl) ?_
                  obtain ⟨g29, h⟩ := h
                  refine jr_iald C B 200 (jk1 (ko_X7_12 k_o) rfl) (jk2 (ko_X7_12 k_o) rfl) r_x9 g29 dX7_repeated_57 ?_
                  refine lv_aload_n C.1 C.2.1 dX7_repeated_58 rfl (lv_at hl 6 rfl) ?_
                  refine gf_X7_28 C B k_o dX7_repeated_59 ?_
                  refine lv_iload C.1 C.2.1 dX7_repeated_62 (lv_at hl 4 rfl) ?_
                  obtain ⟨g30, h⟩ := h
                  refine jr_iald C B 200 (jk1 (ko_X7_12 k_o) rfl) (jk2 (ko_X7_12 k_o) rfl) r_x5 g30 dX7_repeated_64 ?_
                  refine jr_icmp_ne (tgt := 72) C (o_M3 (o + 7) x9).1 (o_M3 (o + 7) x5).1 h dX7_repeated_65 (by decide) (fun hc65 h => ?_) (fun hc65 h => ?_)
                  · refine jr_iconst C dX7_repeated_68 ?_
                    refine lv_goto (tgt := 73) C.1 C.2.1 dX7_repeated_69 (by decide) ?_
                    exact hj48_19 _ _ _ _ h (Or.inr rfl) B (lv_sub hl [1, 2, 3, 4, 5, 6] rfl)
                  · refine jr_iconst C dX7_repeated_72 ?_
                    exact hj48_19 _ _ _ _ h (Or.inl rfl) B (lv_sub hl [1, 2, 3, 4, 5, 6] rfl)
                · refine jr_iconst C dX7_repeated_72 ?_
                  exact hj48_19 _ _ _ _ h (Or.inl rfl) B (lv_sub hl [1, 2, 3, 4, 5, 6] rfl)
              · exact hkx36 _ _ _ _ _ h r_x7 r_x8 B (lv_sub hl [0, 1, 3, 4, 5, 6] rfl)
          exact hL36 N _ _ _ _ _ _ h (jkc rfl) (jkc rfl) (jkc rfl) B (lv_sub hl [2, 1, 0, 3, 4, 5, 6] rfl)
        · exact hkx21 _ _ _ _ h r_x4 B (lv_sub hl [0] rfl)
    exact hL21 N _ _ _ _ _ h (jkc rfl) (jkc rfl) B (lv_sub hl [1, 0, 2, 3] rfl)
theorem cl_X7_repeated {p : Program} {l : Launch} {e : Env} {R : Room} {s : State} {m : MethodId} {args : Array Value} {below : List Frame} {meth : Method} {c : Code} {H : Heap} {locs : List Loc} {cells slots : Nat} {Q : State → Prop} {cc : ByteArray} {nL : Nat} {own : String} {G : jG} {H0 : Heap} {pc idx : Nat} {ls : Array Slot} {rest : List Value} {N : Nat} {M : jM} {o a1 : Int} {k : Int → jM → Prop} (C : Cx G p s args m c cc nL own) (hl : ls.size = nL) (B : Hp G M H0 H locs) (q1 : Cond.methodLink own idx yX7_repeated ∈ tb) (hR : (rmm 6 139).frames + 1 ≤ R.frames ∧ 8 + (8 + 11) + (rmm 6 139).locals ≤ R.locals) (hcs : cells ≤ R.cells ∧ slots ≤ R.slots) (hW : (rest.map fun v => v.category).sum ≤ 8) (k_o : jK o = 8) (r_a1 : jR a1) (h : w_X7_repeated N M o a1 k) (hdg : decode cc pc = .ok (.invokevirtual idx, 3)) (kk : ∀ (r : Int) (M' : jM), jR r → ∀ (H1 : Heap) (locs1 : List Loc), k r M' → Hp G M' H0 H1 locs1 → W p l e R s m args below meth c H1 locs1 cells slots Q (F0 m (pc + 3) ls (.int (jI r) :: rest))) : W p l e R s m args below meth c H locs cells slots Q (F0 m pc ls (.int (jI a1) :: .ref (jD G o) :: rest)) :=
  jr_callI B (jr_runV (o := o) (As := [.int (jI a1)]) (n := 1) C hl B (m_X7_repeated B.2.2 k_o r_a1 h) (jE8 k_o) (by omega) rfl q1 q_1127 q_1128 q_1129 q_8 ⟨by decide, by decide, by decide +kernel⟩ rfl ⟨rfl, rfl⟩ hR hcs rfl hW hdg) (fun r M' H1 locs1 hr hk B1 => kk r M' hr H1 locs1 hk B1)
