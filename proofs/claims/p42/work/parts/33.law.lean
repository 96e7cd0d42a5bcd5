def lp_L_law_40 (X : Int → Int) (L : Int) (N : Nat) (kx40 : Int → jM → Prop) : Nat → Int → Int → jM → Prop
  | 0, _, _, _ => False
  | n + 1, x6, x7, M8 => (if x7 < 56 then (if x6 = 0 then (kx40 x6 M8) else (w_L_lot X L (jW (2 * x7)) (fun x13 => (w_L_lot X L (jW ((jW (2 * x7)) + 1)) (fun x14 => (w_L_look N M8 0 (fun x15 => (w_L_acts N M8 0 x13 x14 (fun x16 M17 => (jL (fun (x18 : Int) (M20 : jM) => (jL (fun (x21 : Int) (M23 : jM) => (if x21 = 0 then (jL (jW (x7 + 1)) (fun x24 => (lp_L_law_40 X L N kx40 n x21 x24 M23))) else (if (jRem x7 11) = 10 then (w_X6_undo N M23 0 (fun x25 M26 => (if x25 = (-1000007) then (jL (jW (x7 + 1)) (fun x27 => (lp_L_law_40 X L N kx40 n 1 x27 M26))) else (if x25 < 0 then (jL (jW (x7 + 1)) (fun x28 => (lp_L_law_40 X L N kx40 n 0 x28 M26))) else (if x25 < 4 then (jL (jW (x7 + 1)) (fun x29 => (lp_L_law_40 X L N kx40 n 1 x29 M26))) else (jL (jW (x7 + 1)) (fun x30 => (lp_L_law_40 X L N kx40 n 0 x30 M26)))))))) else (jL (jW (x7 + 1)) (fun x31 => (lp_L_law_40 X L N kx40 n x21 x31 M23)))))) (fun j123_22 => (if x18 = 0 then (j123_22 x18 M20) else (w_L_look N M20 0 (fun x32 => (if (jLc x32 x15) = 0 then (j123_22 x18 M20) else (w_L_low (jShr x14 8) 3 (fun x33 => (if x33 = 0 then (w_X6_undo N M20 0 (fun x34 M35 => (if x34 < 0 then (j123_22 0 M35) else (w_L_look N M35 0 (fun x36 => (if (jLc x36 x15) = 0 then (j123_22 1 M35) else (j123_22 0 M35))))))) else (j123_22 x18 M20))))))))))) (fun j84_19 => (if x16 = 0 then (j84_19 0 M17) else (jL (fun (M38 : jM) => (if (jRem x7 3) = 2 then (w_L_would N M38 0 x14 (fun x39 M40 => (if x39 = 0 then (j84_19 0 M40) else (j84_19 1 M40)))) else (j84_19 1 M38))) (fun j90_37 => (if (jRem x7 4) ≤ 0 then (w_L_holds N M17 0 (fun x41 M42 => (if x41 = 0 then (j84_19 0 M42) else (j90_37 M42)))) else (j90_37 M17)))))))))))))))) else (kx40 x6 M8))
def w_L_law (X : Int → Int) (L : Int) (N : Nat) (M : jM) : Prop := (w_L_holds N M 0 (fun x1 M2 => (jL (fun (x3 : Int) (M5 : jM) => (lp_L_law_40 X L N (fun (x9 : Int) (M10 : jM) => (if x9 = 0 then False else (w_L_holds N M10 0 (fun x11 M12 => (if x11 = 0 then False else True))))) N x3 0 M5)) (fun j12_4 => (if x1 = 0 then (j12_4 0 M2) else (w_L_would N M2 0 0 (fun x43 M44 => (if x43 = 0 then (j12_4 0 M44) else (w_X6_undo N M44 0 (fun x45 M46 => (if x45 = (-1000007) then (j12_4 1 M46) else (j12_4 0 M46))))))))))))
set_option maxHeartbeats 40000000 in
set_option maxRecDepth 100000 in
theorem law_walk {p : Program} {l : Launch} {e : Env} {s : State} {m : MethodId} {below : List Frame} {meth : Method} {c : Code} {H : Heap} {locs : List Loc} {ls : Array Slot} {b : Nat} {G : jG} {N : Nat} {M : jM} {L : Int} {Ln : Nat} {xs : Nat → Int32} {X : Int → Int} {d0 : Drawn} (hLot : LotX G X L b Ln xs (s.setDrawn d0) s.heap) (hGb : s.heap.size ≤ G.2.2) (C : Cx G p (s.setDrawn d0) #[Value.ref b] m c cL_law 9 RL) (hr : meth.sig.returnType = ret) (hlocks : meth.locks = false) (B : Hp G M s.heap H locs) (hl : lv_has ls 9 [(1, .ref (jD G 0)), (0, .ref b)]) (h : w_L_law X L N M) (hd : s.drawn.sameBut d0 lw_cs) : W p l e room_1 (s.setDrawn d0) m #[Value.ref b] below meth c H locs 252 10892 (lw_Z below #[Value.ref b] s) (F0 m 8 ls []) := by
  have o_M := B.2.2
  have k_X : jK 0 = 7 := by decide
  unfold w_L_law at h
  refine lv_aload_n C.1 C.2.1 dL_law_8 rfl (lv_at hl 0 rfl) ?_
  refine cl_L_holds C hl.1 B q_310 ⟨Nat.le_of_ble_eq_true rfl, Nat.le_of_ble_eq_true rfl⟩ ⟨Nat.le_of_ble_eq_true rfl, Nat.le_of_ble_eq_true rfl⟩ (Nat.le_of_ble_eq_true rfl) k_X h dL_law_9 (fun x1 M2 z_x1 _ _ h B => ?_)
  have o_M2 := B.2.2
  obtain ⟨j12_4, hj12_4, h⟩ := jx_join (P := fun j12_4 : Int → jM → Prop => ∀ (x3 : Int) (M5 : jM) (H : Heap) (locs : List Loc) (ls : Array Slot), j12_4 x3 M5 → (x3 = 0 ∨ x3 = 1) → Hp G M5 s.heap H locs → lv_has ls 9 [(1, .ref (jD G 0)), (0, .ref b)] → W p l e room_1 (s.setDrawn d0) m #[Value.ref b] below meth c H locs 252 10892 (lw_Z below #[Value.ref b] s) (F0 m 37 ls [.int (jI x3)])) h (by
    intro x3 M5 H locs ls h z_x3 B hl
    have o_M5 := B.2.2
    refine lv_istore_n (lv' := [(2, .int (jI x3)), (1, .ref (jD G 0)), (0, .ref b)]) C.1 C.2.1 dL_law_37 rfl hl (by decide) rfl (fun ls hl => ?_)
    refine jr_iconst C dL_law_38 ?_
    refine lv_istore_n (lv' := [(3, .int (jI 0)), (2, .int (jI x3)), (1, .ref (jD G 0)), (0, .ref b)]) C.1 C.2.1 dL_law_39 rfl hl (by decide) rfl (fun ls hl => ?_)
    obtain ⟨kx40, hkx40, h⟩ : ∃ kx40 : Int → jM → Prop, (∀ (x9 : Int) (M10 : jM) (H : Heap) (locs : List Loc) (ls : Array Slot), kx40 x9 M10 → (x9 = 0 ∨ x9 = 1) → Hp G M10 s.heap H locs → lv_has ls 9 [(2, .int (jI x9)), (1, .ref (jD G 0))] → W p l e room_1 (s.setDrawn d0) m #[Value.ref b] below meth c H locs 252 10892 (lw_Z below #[Value.ref b] s) (F0 m 220 ls [])) ∧ lp_L_law_40 X L N kx40 N x3 0 M5 := by
      refine ⟨_, ?_, h⟩
      intro x9 M10 H locs ls h z_x9 B hl
      have o_M10 := B.2.2
      refine lv_iload_n C.1 C.2.1 dL_law_220 rfl (lv_at hl 0 rfl) ?_
      refine jr_if_eq (tgt := 235) C (zR z_x9) h dL_law_221 (by decide) (fun hc221 h => ?_) (fun hc221 h => ?_)
      · refine jr_iconst C dL_law_235 ?_
        exact h.elim
      · refine lv_aload_n C.1 C.2.1 dL_law_224 rfl (lv_at hl 1 rfl) ?_
        refine cl_L_holds C hl.1 B q_310 ⟨Nat.le_of_ble_eq_true rfl, Nat.le_of_ble_eq_true rfl⟩ ⟨Nat.le_of_ble_eq_true rfl, Nat.le_of_ble_eq_true rfl⟩ (Nat.le_of_ble_eq_true rfl) k_X h dL_law_225 (fun x11 M12 z_x11 _ _ h B => ?_)
        have o_M12 := B.2.2
        refine jr_if_eq (tgt := 235) C (zR z_x11) h dL_law_228 (by decide) (fun hc228 h => ?_) (fun hc228 h => ?_)
        · refine jr_iconst C dL_law_235 ?_
          exact h.elim
        · refine jr_iconst C dL_law_231 ?_
          refine lv_goto (tgt := 236) C.1 C.2.1 dL_law_232 (by decide) ?_
          exact jl_end hd hGb C B hr hlocks rfl dL_law_236
    have hL40 : ∀ (n : Nat) (x6 : Int) (x7 : Int) (M8 : jM) (H : Heap) (locs : List Loc) (ls : Array Slot), lp_L_law_40 X L N kx40 n x6 x7 M8 → (x6 = 0 ∨ x6 = 1) → jR x7 → Hp G M8 s.heap H locs → lv_has ls 9 [(2, .int (jI x6)), (3, .int (jI x7)), (1, .ref (jD G 0)), (0, .ref b)] → W p l e room_1 (s.setDrawn d0) m #[Value.ref b] below meth c H locs 252 10892 (lw_Z below #[Value.ref b] s) (F0 m 40 ls []) := by
      intro n
      induction n with
      | zero => intro x6 x7 M8 H locs ls h; exact (show False from h).elim
      | succ n ih40 =>
        intro x6 x7 M8 H locs ls h z_x6 r_x7 B hl
        have o_M8 := B.2.2
        rw [lp_L_law_40] at h
        refine lv_iload_n C.1 C.2.1 dL_law_40 rfl (lv_at hl 1 rfl) ?_
        refine jr_bipush C dL_law_41 (by decide) ?_
        refine jr_icmp_ge (tgt := 220) C r_x7 (jkc rfl) h dL_law_43 (by decide) (fun hc43 h => ?_) (fun hc43 h => ?_)
        · refine lv_iload_n C.1 C.2.1 dL_law_46 rfl (lv_at hl 0 rfl) ?_
          refine jr_if_eq (tgt := 220) C (zR z_x6) h dL_law_47 (by decide) (fun hc47 h => ?_) (fun hc47 h => ?_)
          · exact hkx40 _ _ _ _ _ h z_x6 B (lv_sub hl [0, 2] rfl)
          · refine lv_aload_n C.1 C.2.1 dL_law_50 rfl (lv_at hl 3 rfl) ?_
            refine jr_iconst C dL_law_51 ?_
            refine lv_iload_n C.1 C.2.1 dL_law_52 rfl (lv_at hl 1 rfl) ?_
            refine jr_imul C dL_law_53 ?_
            refine cl_L_lot C hl.1 B q_216 hLot ⟨Nat.le_of_ble_eq_true rfl, Nat.le_of_ble_eq_true rfl⟩ ⟨Nat.le_of_ble_eq_true rfl, Nat.le_of_ble_eq_true rfl⟩ (Nat.le_of_ble_eq_true rfl) (jW_R _) h dL_law_54 (fun x13 r_x13 _ _ h B => ?_)
            refine lv_istore (lv' := [(4, .int (jI x13)), (2, .int (jI x6)), (3, .int (jI x7)), (1, .ref (jD G 0)), (0, .ref b)]) C.1 C.2.1 dL_law_57 hl (by decide) rfl (fun ls hl => ?_)
            refine lv_aload_n C.1 C.2.1 dL_law_59 rfl (lv_at hl 4 rfl) ?_
            refine jr_iconst C dL_law_60 ?_
            refine lv_iload_n C.1 C.2.1 dL_law_61 rfl (lv_at hl 2 rfl) ?_
            refine jr_imul C dL_law_62 ?_
            refine jr_iconst C dL_law_63 ?_
            refine jr_iadd C dL_law_64 ?_
            refine cl_L_lot C hl.1 B q_216 hLot ⟨Nat.le_of_ble_eq_true rfl, Nat.le_of_ble_eq_true rfl⟩ ⟨Nat.le_of_ble_eq_true rfl, Nat.le_of_ble_eq_true rfl⟩ (Nat.le_of_ble_eq_true rfl) (jW_R _) h dL_law_65 (fun x14 r_x14 _ _ h B => ?_)
            refine lv_istore (lv' := [(5, .int (jI x14)), (4, .int (jI x13)), (2, .int (jI x6)), (3, .int (jI x7)), (1, .ref (jD G 0)), (0, .ref b)]) C.1 C.2.1 dL_law_68 hl (by decide) rfl (fun ls hl => ?_)
            refine lv_aload_n C.1 C.2.1 dL_law_70 rfl (lv_at hl 4 rfl) ?_
            refine cl_L_look C hl.1 B q_224 ⟨Nat.le_of_ble_eq_true rfl, Nat.le_of_ble_eq_true rfl⟩ ⟨Nat.le_of_ble_eq_true rfl, Nat.le_of_ble_eq_true rfl⟩ (Nat.le_of_ble_eq_true rfl) k_X h dL_law_71 (fun x15 _ _ h B => ?_)
            refine lv_lstore (lv' := [(6, .long x15), (5, .int (jI x14)), (4, .int (jI x13)), (2, .int (jI x6)), (3, .int (jI x7)), (1, .ref (jD G 0)), (0, .ref b)]) C.1 C.2.1 dL_law_74 hl (by decide) rfl (fun ls hl => ?_)
            refine lv_aload_n C.1 C.2.1 dL_law_76 rfl (lv_at hl 5 rfl) ?_
            refine lv_iload C.1 C.2.1 dL_law_77 (lv_at hl 2 rfl) ?_
            refine lv_iload C.1 C.2.1 dL_law_79 (lv_at hl 1 rfl) ?_
            refine cl_L_acts C hl.1 B q_440 ⟨Nat.le_of_ble_eq_true rfl, Nat.le_of_ble_eq_true rfl⟩ ⟨Nat.le_of_ble_eq_true rfl, Nat.le_of_ble_eq_true rfl⟩ (Nat.le_of_ble_eq_true rfl) k_X r_x13 r_x14 h dL_law_81 (fun x16 M17 z_x16 _ _ h B => ?_)
            have o_M17 := B.2.2
            obtain ⟨j84_19, hj84_19, h⟩ := jx_join (P := fun j84_19 : Int → jM → Prop => ∀ (x18 : Int) (M20 : jM) (H : Heap) (locs : List Loc) (ls : Array Slot), j84_19 x18 M20 → (x18 = 0 ∨ x18 = 1) → Hp G M20 s.heap H locs → lv_has ls 9 [(6, .long x15), (5, .int (jI x14)), (3, .int (jI x7)), (1, .ref (jD G 0)), (0, .ref b)] → W p l e room_1 (s.setDrawn d0) m #[Value.ref b] below meth c H locs 252 10892 (lw_Z below #[Value.ref b] s) (F0 m 121 ls [.int (jI x18)])) h (by
              intro x18 M20 H locs ls h z_x18 B hl
              have o_M20 := B.2.2
              refine lv_istore_n (lv' := [(2, .int (jI x18)), (6, .long x15), (5, .int (jI x14)), (3, .int (jI x7)), (1, .ref (jD G 0)), (0, .ref b)]) C.1 C.2.1 dL_law_121 rfl hl (by decide) rfl (fun ls hl => ?_)
              refine lv_iload_n C.1 C.2.1 dL_law_122 rfl (lv_at hl 0 rfl) ?_
              obtain ⟨j123_22, hj123_22, h⟩ := jx_join (P := fun j123_22 : Int → jM → Prop => ∀ (x21 : Int) (M23 : jM) (H : Heap) (locs : List Loc) (ls : Array Slot), j123_22 x21 M23 → (x21 = 0 ∨ x21 = 1) → Hp G M23 s.heap H locs → lv_has ls 9 [(2, .int (jI x21)), (3, .int (jI x7)), (1, .ref (jD G 0)), (0, .ref b)] → W p l e room_1 (s.setDrawn d0) m #[Value.ref b] below meth c H locs 252 10892 (lw_Z below #[Value.ref b] s) (F0 m 171 ls [])) h (by
                intro x21 M23 H locs ls h z_x21 B hl
                have o_M23 := B.2.2
                refine lv_iload_n C.1 C.2.1 dL_law_171 rfl (lv_at hl 0 rfl) ?_
                refine jr_if_eq (tgt := 214) C (zR z_x21) h dL_law_172 (by decide) (fun hc172 h => ?_) (fun hc172 h => ?_)
                · refine jr_iinc (k := 1) (lv' := fun x24 => [(3, .int (jI x24)), (2, .int (jI x21)), (1, .ref (jD G 0)), (0, .ref b)]) C h hl rfl (by decide) (fun _ => rfl) dL_law_214 (fun x24 h r_x24 ls hl => ?_)
                  refine lv_goto (tgt := 40) C.1 C.2.1 dL_law_217 (by decide) ?_
                  exact ih40 _ _ _ _ _ _ h z_x21 r_x24 B (lv_sub hl [1, 0, 2, 3] rfl)
                · refine lv_iload_n C.1 C.2.1 dL_law_175 rfl (lv_at hl 1 rfl) ?_
                  refine jr_bipush C dL_law_176 (by decide) ?_
                  refine jr_irem C (by decide) dL_law_178 ?_
                  refine jr_bipush C dL_law_179 (by decide) ?_
                  refine jr_icmp_ne (tgt := 214) C (jRem_R _ _) (jkc rfl) h dL_law_181 (by decide) (fun hc181 h => ?_) (fun hc181 h => ?_)
                  · refine lv_aload_n C.1 C.2.1 dL_law_184 rfl (lv_at hl 2 rfl) ?_
                    refine cl_X6_undo C hl.1 B q_195 ⟨Nat.le_of_ble_eq_true rfl, Nat.le_of_ble_eq_true rfl⟩ ⟨Nat.le_of_ble_eq_true rfl, Nat.le_of_ble_eq_true rfl⟩ (Nat.le_of_ble_eq_true rfl) k_X h dL_law_185 (fun x25 M26 r_x25 _ _ h B => ?_)
                    have o_M26 := B.2.2
                    refine lv_istore (lv' := [(8, .int (jI x25)), (2, .int (jI x21)), (3, .int (jI x7)), (1, .ref (jD G 0)), (0, .ref b)]) C.1 C.2.1 dL_law_188 hl (by decide) rfl (fun ls hl => ?_)
                    refine lv_iload C.1 C.2.1 dL_law_190 (lv_at hl 0 rfl) ?_
                    refine jr_ldc (n := -1000007) C q_313 (by decide) dL_law_192 ?_
                    refine jr_icmp_eq (tgt := 208) C r_x25 (jkc rfl) h dL_law_194 (by decide) (fun hc194 h => ?_) (fun hc194 h => ?_)
                    · refine jr_iconst C dL_law_208 ?_
                      refine lv_goto (tgt := 213) C.1 C.2.1 dL_law_209 (by decide) ?_
                      refine lv_istore_n (lv' := [(2, .int (jI 1)), (8, .int (jI x25)), (3, .int (jI x7)), (1, .ref (jD G 0)), (0, .ref b)]) C.1 C.2.1 dL_law_213 rfl hl (by decide) rfl (fun ls hl => ?_)
                      refine jr_iinc (k := 2) (lv' := fun x27 => [(3, .int (jI x27)), (2, .int (jI 1)), (8, .int (jI x25)), (1, .ref (jD G 0)), (0, .ref b)]) C h hl rfl (by decide) (fun _ => rfl) dL_law_214 (fun x27 h r_x27 ls hl => ?_)
                      refine lv_goto (tgt := 40) C.1 C.2.1 dL_law_217 (by decide) ?_
                      exact ih40 _ _ _ _ _ _ h (Or.inr rfl) r_x27 B (lv_sub hl [1, 0, 3, 4] rfl)
                    · refine lv_iload C.1 C.2.1 dL_law_197 (lv_at hl 0 rfl) ?_
                      refine jr_if_lt (tgt := 212) C r_x25 h dL_law_199 (by decide) (fun hc199 h => ?_) (fun hc199 h => ?_)
                      · refine jr_iconst C dL_law_212 ?_
                        refine lv_istore_n (lv' := [(2, .int (jI 0)), (8, .int (jI x25)), (3, .int (jI x7)), (1, .ref (jD G 0)), (0, .ref b)]) C.1 C.2.1 dL_law_213 rfl hl (by decide) rfl (fun ls hl => ?_)
                        refine jr_iinc (k := 2) (lv' := fun x28 => [(3, .int (jI x28)), (2, .int (jI 0)), (8, .int (jI x25)), (1, .ref (jD G 0)), (0, .ref b)]) C h hl rfl (by decide) (fun _ => rfl) dL_law_214 (fun x28 h r_x28 ls hl => ?_)
                        refine lv_goto (tgt := 40) C.1 C.2.1 dL_law_217 (by decide) ?_
                        exact ih40 _ _ _ _ _ _ h (Or.inl rfl) r_x28 B (lv_sub hl [1, 0, 3, 4] rfl)
                      · refine lv_iload C.1 C.2.1 dL_law_202 (lv_at hl 0 rfl) ?_
                        refine jr_iconst C dL_law_204 ?_
                        refine jr_icmp_ge (tgt := 212) C r_x25 (jkc rfl) h dL_law_205 (by decide) (fun hc205 h => ?_) (fun hc205 h => ?_)
                        · refine jr_iconst C dL_law_208 ?_
                          refine lv_goto (tgt := 213) C.1 C.2.1 dL_law_209 (by decide) ?_
                          refine lv_istore_n (lv' := [(2, .int (jI 1)), (8, .int (jI x25)), (3, .int (jI x7)), (1, .ref (jD G 0)), (0, .ref b)]) C.1 C.2.1 dL_law_213 rfl hl (by decide) rfl (fun ls hl => ?_)
                          refine jr_iinc (k := 2) (lv' := fun x29 => [(3, .int (jI x29)), (2, .int (jI 1)), (8, .int (jI x25)), (1, .ref (jD G 0)), (0, .ref b)]) C h hl rfl (by decide) (fun _ => rfl) dL_law_214 (fun x29 h r_x29 ls hl => ?_)
                          refine lv_goto (tgt := 40) C.1 C.2.1 dL_law_217 (by decide) ?_
                          exact ih40 _ _ _ _ _ _ h (Or.inr rfl) r_x29 B (lv_sub hl [1, 0, 3, 4] rfl)
                        · refine jr_iconst C dL_law_212 ?_
                          refine lv_istore_n (lv' := [(2, .int (jI 0)), (8, .int (jI x25)), (3, .int (jI x7)), (1, .ref (jD G 0)), (0, .ref b)]) C.1 C.2.1 dL_law_213 rfl hl (by decide) rfl (fun ls hl => ?_)
                          refine jr_iinc (k := 2) (lv' := fun x30 => [(3, .int (jI x30)), (2, .int (jI 0)), (8, .int (jI x25)), (1, .ref (jD G 0)), (0, .ref b)]) C h hl rfl (by decide) (fun _ => rfl) dL_law_214 (fun x30 h r_x30 ls hl => ?_)
                          refine lv_goto (tgt := 40) C.1 C.2.1 dL_law_217 (by decide) ?_
                          exact ih40 _ _ _ _ _ _ h (Or.inl rfl) r_x30 B (lv_sub hl [1, 0, 3, 4] rfl)
                  · refine jr_iinc (k := 1) (lv' := fun x31 => [(3, .int (jI x31)), (2, .int (jI x21)), (1, .ref (jD G 0)), (0, .ref b)]) C h hl rfl (by decide) (fun _ => rfl) dL_law_214 (fun x31 h r_x31 ls hl => ?_)
                    refine lv_goto (tgt := 40) C.1 C.2.1 dL_law_217 (by decide) ?_
                    exact ih40 _ _ _ _ _ _ h z_x21 r_x31 B (lv_sub hl [1, 0, 2, 3] rfl))
              refine jr_if_eq (tgt := 171) C (zR z_x18) h dL_law_123 (by decide) (fun hc123 h => ?_) (fun hc123 h => ?_)
              · exact hj123_22 _ _ _ _ _ h z_x18 B (lv_sub hl [0, 3, 4, 5] rfl)
              · refine lv_aload_n C.1 C.2.1 dL_law_126 rfl (lv_at hl 4 rfl) ?_
                refine cl_L_look C hl.1 B q_224 ⟨Nat.le_of_ble_eq_true rfl, Nat.le_of_ble_eq_true rfl⟩ ⟨Nat.le_of_ble_eq_true rfl, Nat.le_of_ble_eq_true rfl⟩ (Nat.le_of_ble_eq_true rfl) k_X h dL_law_127 (fun x32 _ _ h B => ?_)
                refine lv_lload C.1 C.2.1 dL_law_130 (lv_at hl 1 rfl) ?_
                refine jr_lcmp C dL_law_132 ?_
                refine jr_if_eq (tgt := 171) C (jR_of _) h dL_law_133 (by decide) (fun hc133 h => ?_) (fun hc133 h => ?_)
                · exact hj123_22 _ _ _ _ _ h z_x18 B (lv_sub hl [0, 3, 4, 5] rfl)
                · refine lv_iload C.1 C.2.1 dL_law_136 (lv_at hl 2 rfl) ?_
                  refine jr_bipush C dL_law_138 (by decide) ?_
                  refine jr_ishr C dL_law_140 ?_
                  refine jr_iconst C dL_law_141 ?_
                  refine cl_L_low C hl.1 B q_220 ⟨Nat.le_of_ble_eq_true rfl, Nat.le_of_ble_eq_true rfl⟩ ⟨Nat.le_of_ble_eq_true rfl, Nat.le_of_ble_eq_true rfl⟩ (Nat.le_of_ble_eq_true rfl) (jShr_R _ _) (jkc rfl) h dL_law_142 (fun x33 r_x33 _ _ h B => ?_)
                  refine jr_if_ne (tgt := 171) C r_x33 h dL_law_145 (by decide) (fun hc145 h => ?_) (fun hc145 h => ?_)
                  · refine lv_aload_n C.1 C.2.1 dL_law_148 rfl (lv_at hl 4 rfl) ?_
                    refine cl_X6_undo C hl.1 B q_195 ⟨Nat.le_of_ble_eq_true rfl, Nat.le_of_ble_eq_true rfl⟩ ⟨Nat.le_of_ble_eq_true rfl, Nat.le_of_ble_eq_true rfl⟩ (Nat.le_of_ble_eq_true rfl) k_X h dL_law_149 (fun x34 M35 r_x34 _ _ h B => ?_)
                    have o_M35 := B.2.2
                    refine jr_if_lt (tgt := 169) C r_x34 h dL_law_152 (by decide) (fun hc152 h => ?_) (fun hc152 h => ?_)
                    · refine jr_iconst C dL_law_169 ?_
                      refine lv_istore_n (lv' := [(2, .int (jI 0)), (6, .long x15), (5, .int (jI x14)), (3, .int (jI x7)), (1, .ref (jD G 0)), (0, .ref b)]) C.1 C.2.1 dL_law_170 rfl hl (by decide) rfl (fun ls hl => ?_)
                      exact hj123_22 _ _ _ _ _ h (Or.inl rfl) B (lv_sub hl [0, 3, 4, 5] rfl)
                    · refine lv_aload_n C.1 C.2.1 dL_law_155 rfl (lv_at hl 4 rfl) ?_
                      refine cl_L_look C hl.1 B q_224 ⟨Nat.le_of_ble_eq_true rfl, Nat.le_of_ble_eq_true rfl⟩ ⟨Nat.le_of_ble_eq_true rfl, Nat.le_of_ble_eq_true rfl⟩ (Nat.le_of_ble_eq_true rfl) k_X h dL_law_156 (fun x36 _ _ h B => ?_)
                      refine lv_lload C.1 C.2.1 dL_law_159 (lv_at hl 1 rfl) ?_
                      refine jr_lcmp C dL_law_161 ?_
                      refine jr_if_ne (tgt := 169) C (jR_of _) h dL_law_162 (by decide) (fun hc162 h => ?_) (fun hc162 h => ?_)
                      · refine jr_iconst C dL_law_165 ?_
                        refine lv_goto (tgt := 170) C.1 C.2.1 dL_law_166 (by decide) ?_
                        refine lv_istore_n (lv' := [(2, .int (jI 1)), (6, .long x15), (5, .int (jI x14)), (3, .int (jI x7)), (1, .ref (jD G 0)), (0, .ref b)]) C.1 C.2.1 dL_law_170 rfl hl (by decide) rfl (fun ls hl => ?_)
                        exact hj123_22 _ _ _ _ _ h (Or.inr rfl) B (lv_sub hl [0, 3, 4, 5] rfl)
                      · refine jr_iconst C dL_law_169 ?_
                        refine lv_istore_n (lv' := [(2, .int (jI 0)), (6, .long x15), (5, .int (jI x14)), (3, .int (jI x7)), (1, .ref (jD G 0)), (0, .ref b)]) C.1 C.2.1 dL_law_170 rfl hl (by decide) rfl (fun ls hl => ?_)
                        exact hj123_22 _ _ _ _ _ h (Or.inl rfl) B (lv_sub hl [0, 3, 4, 5] rfl)
                  · exact hj123_22 _ _ _ _ _ h z_x18 B (lv_sub hl [0, 3, 4, 5] rfl))
            refine jr_if_eq (tgt := 120) C (zR z_x16) h dL_law_84 (by decide) (fun hc84 h => ?_) (fun hc84 h => ?_)
            · refine jr_iconst C dL_law_120 ?_
              exact hj84_19 _ _ _ _ _ h (Or.inl rfl) B (lv_sub hl [0, 1, 4, 5, 6] rfl)
            · refine lv_iload_n C.1 C.2.1 dL_law_87 rfl (lv_at hl 4 rfl) ?_
              refine jr_iconst C dL_law_88 ?_
              refine jr_irem C (by decide) dL_law_89 ?_
              obtain ⟨j90_37, hj90_37, h⟩ := jx_join (P := fun j90_37 : jM → Prop => ∀ (M38 : jM) (H : Heap) (locs : List Loc) (ls : Array Slot), j90_37 M38 → Hp G M38 s.heap H locs → lv_has ls 9 [(6, .long x15), (5, .int (jI x14)), (3, .int (jI x7)), (1, .ref (jD G 0)), (0, .ref b)] → W p l e room_1 (s.setDrawn d0) m #[Value.ref b] below meth c H locs 252 10892 (lw_Z below #[Value.ref b] s) (F0 m 100 ls [])) h (by
                intro M38 H locs ls h  B hl
                have o_M38 := B.2.2
                refine lv_iload_n C.1 C.2.1 dL_law_100 rfl (lv_at hl 2 rfl) ?_
                refine jr_iconst C dL_law_101 ?_
                refine jr_irem C (by decide) dL_law_102 ?_
                refine jr_iconst C dL_law_103 ?_
                refine jr_icmp_ne (tgt := 116) C (jRem_R _ _) (jkc rfl) h dL_law_104 (by decide) (fun hc104 h => ?_) (fun hc104 h => ?_)
                · refine lv_aload_n C.1 C.2.1 dL_law_107 rfl (lv_at hl 3 rfl) ?_
                  refine lv_iload C.1 C.2.1 dL_law_108 (lv_at hl 1 rfl) ?_
                  refine cl_L_would C hl.1 B q_386 ⟨Nat.le_of_ble_eq_true rfl, Nat.le_of_ble_eq_true rfl⟩ ⟨Nat.le_of_ble_eq_true rfl, Nat.le_of_ble_eq_true rfl⟩ (Nat.le_of_ble_eq_true rfl) k_X r_x14 h dL_law_110 (fun x39 M40 z_x39 _ _ h B => ?_)
                  have o_M40 := B.2.2
                  refine jr_if_eq (tgt := 120) C (zR z_x39) h dL_law_113 (by decide) (fun hc113 h => ?_) (fun hc113 h => ?_)
                  · refine jr_iconst C dL_law_120 ?_
                    exact hj84_19 _ _ _ _ _ h (Or.inl rfl) B (lv_sub hl [0, 1, 2, 3, 4] rfl)
                  · refine jr_iconst C dL_law_116 ?_
                    refine lv_goto (tgt := 121) C.1 C.2.1 dL_law_117 (by decide) ?_
                    exact hj84_19 _ _ _ _ _ h (Or.inr rfl) B (lv_sub hl [0, 1, 2, 3, 4] rfl)
                · refine jr_iconst C dL_law_116 ?_
                  refine lv_goto (tgt := 121) C.1 C.2.1 dL_law_117 (by decide) ?_
                  exact hj84_19 _ _ _ _ _ h (Or.inr rfl) B (lv_sub hl [0, 1, 2, 3, 4] rfl))
              refine jr_if_gt (tgt := 100) C (jRem_R _ _) h dL_law_90 (by decide) (fun hc90 h => ?_) (fun hc90 h => ?_)
              · refine lv_aload_n C.1 C.2.1 dL_law_93 rfl (lv_at hl 5 rfl) ?_
                refine cl_L_holds C hl.1 B q_310 ⟨Nat.le_of_ble_eq_true rfl, Nat.le_of_ble_eq_true rfl⟩ ⟨Nat.le_of_ble_eq_true rfl, Nat.le_of_ble_eq_true rfl⟩ (Nat.le_of_ble_eq_true rfl) k_X h dL_law_94 (fun x41 M42 z_x41 _ _ h B => ?_)
                have o_M42 := B.2.2
                refine jr_if_eq (tgt := 120) C (zR z_x41) h dL_law_97 (by decide) (fun hc97 h => ?_) (fun hc97 h => ?_)
                · refine jr_iconst C dL_law_120 ?_
                  exact hj84_19 _ _ _ _ _ h (Or.inl rfl) B (lv_sub hl [0, 1, 4, 5, 6] rfl)
                · exact hj90_37 _ _ _ _ h  B (lv_sub hl [0, 1, 4, 5, 6] rfl)
              · exact hj90_37 _ _ _ _ h  B (lv_sub hl [0, 1, 4, 5, 6] rfl)
        · exact hkx40 _ _ _ _ _ h z_x6 B (lv_sub hl [0, 2] rfl)
    exact hL40 N _ _ _ _ _ _ h z_x3 (jkc rfl) B (lv_sub hl [1, 0, 2, 3] rfl))
  refine jr_if_eq (tgt := 36) C (zR z_x1) h dL_law_12 (by decide) (fun hc12 h => ?_) (fun hc12 h => ?_)
  · refine jr_iconst C dL_law_36 ?_
    exact hj12_4 _ _ _ _ _ h (Or.inl rfl) B (lv_sub hl [0, 1] rfl)
  · refine lv_aload_n C.1 C.2.1 dL_law_15 rfl (lv_at hl 0 rfl) ?_
    refine jr_iconst C dL_law_16 ?_
    refine cl_L_would C hl.1 B q_386 ⟨Nat.le_of_ble_eq_true rfl, Nat.le_of_ble_eq_true rfl⟩ ⟨Nat.le_of_ble_eq_true rfl, Nat.le_of_ble_eq_true rfl⟩ (Nat.le_of_ble_eq_true rfl) k_X (jkc rfl) h dL_law_17 (fun x43 M44 z_x43 _ _ h B => ?_)
    have o_M44 := B.2.2
    refine jr_if_eq (tgt := 36) C (zR z_x43) h dL_law_20 (by decide) (fun hc20 h => ?_) (fun hc20 h => ?_)
    · refine jr_iconst C dL_law_36 ?_
      exact hj12_4 _ _ _ _ _ h (Or.inl rfl) B (lv_sub hl [0, 1] rfl)
    · refine lv_aload_n C.1 C.2.1 dL_law_23 rfl (lv_at hl 0 rfl) ?_
      refine cl_X6_undo C hl.1 B q_195 ⟨Nat.le_of_ble_eq_true rfl, Nat.le_of_ble_eq_true rfl⟩ ⟨Nat.le_of_ble_eq_true rfl, Nat.le_of_ble_eq_true rfl⟩ (Nat.le_of_ble_eq_true rfl) k_X h dL_law_24 (fun x45 M46 r_x45 _ _ h B => ?_)
      have o_M46 := B.2.2
      refine jr_ldc (n := -1000007) C q_313 (by decide) dL_law_27 ?_
      refine jr_icmp_ne (tgt := 36) C r_x45 (jkc rfl) h dL_law_29 (by decide) (fun hc29 h => ?_) (fun hc29 h => ?_)
      · refine jr_iconst C dL_law_32 ?_
        refine lv_goto (tgt := 37) C.1 C.2.1 dL_law_33 (by decide) ?_
        exact hj12_4 _ _ _ _ _ h (Or.inr rfl) B (lv_sub hl [0, 1] rfl)
      · refine jr_iconst C dL_law_36 ?_
        exact hj12_4 _ _ _ _ _ h (Or.inl rfl) B (lv_sub hl [0, 1] rfl)
