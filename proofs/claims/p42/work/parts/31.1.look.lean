def lp_L_look_211 (N : Nat) (a1 : Int) (x12 : Int) (x16 : Int) (x22 : Int) (M : jM) (kx211 : Int64 → Prop) : Nat → Int64 → Int → Prop
  | 0, _, _ => False
  | n + 1, x28, x29 => (w_X6_subvalues N M a1 x12 x16 x22 (fun x32 => (if x29 < x32 then (w_X6_get N M a1 x12 x16 x22 x29 (fun x33 => (jL (((31 : Int64) * x28) + (jI x33).toInt64) (fun (x34 : Int64) => (jL (jW (x29 + 1)) (fun x35 => (lp_L_look_211 N a1 x12 x16 x22 M kx211 n x34 x35))))))) else (kx211 x28))))
def lp_L_look_177 (N : Nat) (a1 : Int) (x12 : Int) (x16 : Int) (M : jM) (kx177 : Int64 → Prop) : Nat → Int64 → Int → Prop
  | 0, _, _ => False
  | n + 1, x21, x22 => (w_X6_values N M a1 x12 x16 (fun x25 => (if x22 < x25 then (w_X6_subvalues N M a1 x12 x16 x22 (fun x26 => (jL (((31 : Int64) * x21) + (jI x26).toInt64) (fun (x27 : Int64) => (lp_L_look_211 N a1 x12 x16 x22 M (fun (x30 : Int64) => (jL (jW (x22 + 1)) (fun x31 => (lp_L_look_177 N a1 x12 x16 M kx177 n x30 x31)))) N x27 0))))) else (kx177 x21))))
def lp_L_look_152 (N : Nat) (a1 : Int) (x12 : Int) (M : jM) (kx152 : Int64 → Prop) : Nat → Int64 → Int → Prop
  | 0, _, _ => False
  | n + 1, x15, x16 => (if x16 < 4 then (w_X6_values N M a1 x12 x16 (fun x19 => (jL (((31 : Int64) * x15) + (jI x19).toInt64) (fun (x20 : Int64) => (lp_L_look_177 N a1 x12 x16 M (fun (x23 : Int64) => (jL (jW (x16 + 1)) (fun x24 => (lp_L_look_152 N a1 x12 M kx152 n x23 x24)))) N x20 0))))) else (kx152 x15))
def lp_L_look_112 (N : Nat) (a1 : Int) (M : jM) (kx112 : Int64 → Prop) : Nat → Int64 → Int → Prop
  | 0, _, _ => False
  | n + 1, x8, x9 => (w_X6_records M a1 (fun x11 => (if x9 < x11 then (w_X6_recordAt M a1 x9 (fun x12 => (w_X6_locker N M a1 x12 (fun x13 => (jL (((31 : Int64) * (((31 : Int64) * x8) + (jI x12).toInt64)) + (jI x13).toInt64) (fun (x14 : Int64) => (lp_L_look_152 N a1 x12 M (fun (x17 : Int64) => (jL (jW (x9 + 1)) (fun x18 => (lp_L_look_112 N a1 M kx112 n x17 x18)))) N x14 0))))))) else (kx112 x8))))
def lp_L_look_73 (N : Nat) (a1 : Int) (x6 : Int) (M : jM) (kx73 : Int64 → Prop) : Nat → Int64 → Int → Prop
  | 0, _, _ => False
  | n + 1, x39, x40 => (w_X6_listSize N M a1 x6 (fun x43 => (if x40 < x43 then (w_X6_listAt N M a1 x6 x40 (fun x44 => (jL (((31 : Int64) * x39) + (jI x44).toInt64) (fun (x45 : Int64) => (jL (jW (x40 + 1)) (fun x46 => (lp_L_look_73 N a1 x6 M kx73 n x45 x46))))))) else (kx73 x39))))
def lp_L_look_38 (N : Nat) (a1 : Int) (M : jM) (kx38 : Int64 → Prop) : Nat → Int64 → Int → Prop
  | 0, _, _ => False
  | n + 1, x5, x6 => (if x6 < 8 then (w_X6_associated M a1 (jRem x6 4) (fun x36 => (w_X6_listSize N M a1 x6 (fun x37 => (jL (((31 : Int64) * (((31 : Int64) * x5) + (jI x36).toInt64)) + (jI x37).toInt64) (fun (x38 : Int64) => (lp_L_look_73 N a1 x6 M (fun (x41 : Int64) => (jL (jW (x6 + 1)) (fun x42 => (lp_L_look_38 N a1 M kx38 n x41 x42)))) N x38 0))))))) else (kx38 x5))
def lp_L_look_6 (a1 : Int) (M : jM) (kx6 : Int64 → Prop) : Nat → Int64 → Int → Prop
  | 0, _, _ => False
  | n + 1, x2, x3 => (if x3 < 18 then (w_X6_column M a1 (jDiv x3 3) (jRem x3 3) (fun x47 => (jL (((31 : Int64) * x2) + (jI x47).toInt64) (fun (x48 : Int64) => (jL (jW (x3 + 1)) (fun x49 => (lp_L_look_6 a1 M kx6 n x48 x49))))))) else (kx6 x2))
def w_L_look (N : Nat) (M : jM) (a1 : Int) (k : Int64 → Prop) : Prop := (jL (439 : Int64) (fun (x1 : Int64) => (lp_L_look_6 a1 M (fun (x4 : Int64) => (lp_L_look_38 N a1 M (fun (x7 : Int64) => (lp_L_look_112 N a1 M (fun (x10 : Int64) => (k x10)) N x7 0)) N x4 0)) N x1 0)))
set_option maxHeartbeats 4000000 in
set_option maxRecDepth 100000 in
theorem m_L_look {l : Launch} {G : jG} {N : Nat} {M : jM} {a1 : Int} {k : Int64 → Prop} (o_M : jOK M) (k_a1 : jK a1 = 7) (h : w_L_look N M a1 k) : Met l yL_look (wsG yL_look cL_look 8 (some .long)) (rmm 4 91) (jPc G M [.ref (jD G a1)]) (qJ G (fun r M' => M' = M ∧ k r)) 0 0 (gA G) := by
  refine jm_start RL rfl (by decide) (Nat.le_of_ble_eq_true rfl) o_M ?_
  intro p e s m args below meth c ls C hr hlocks hl B
  have hl : lv_has ls 8 [(0, .ref (jD G a1))] := hl
  unfold w_L_look at h
  refine jr_ldc2 C q_227 dL_look_0 ?_
  refine jr_nmj h (fun x1 h => ?_)
  refine lv_lstore_n (lv' := [(1, .long x1), (0, .ref (jD G a1))]) C.1 C.2.1 dL_look_3 rfl hl (by decide) rfl (fun ls hl => ?_)
  refine jr_iconst C dL_look_4 ?_
  refine lv_istore_n (lv' := [(3, .int (jI 0)), (1, .long x1), (0, .ref (jD G a1))]) C.1 C.2.1 dL_look_5 rfl hl (by decide) rfl (fun ls hl => ?_)
  obtain ⟨kx6, hkx6, h⟩ : ∃ kx6 : Int64 → Prop, (∀ (x4 : Int64) (H : Heap) (locs : List Loc) (ls : Array Slot), kx6 x4 → Hp G M s.heap H locs → lv_has ls 8 [(1, .long x4), (0, .ref (jD G a1))] → W p l e (rmm 4 91) s m args below meth c H locs 0 0 (MQ below (qJ G (fun r M' => M' = M ∧ k r)) args s 0 0 (gA G)) (F0 m 36 ls [])) ∧ lp_L_look_6 a1 M kx6 N x1 0 := by
    refine ⟨_, ?_, h⟩
    intro x4 H locs ls h  B hl
    refine jr_iconst C dL_look_36 ?_
    refine lv_istore_n (lv' := [(3, .int (jI 0)), (1, .long x4), (0, .ref (jD G a1))]) C.1 C.2.1 dL_look_37 rfl hl (by decide) rfl (fun ls hl => ?_)
    obtain ⟨kx38, hkx38, h⟩ : ∃ kx38 : Int64 → Prop, (∀ (x7 : Int64) (H : Heap) (locs : List Loc) (ls : Array Slot), kx38 x7 → Hp G M s.heap H locs → lv_has ls 8 [(1, .long x7), (0, .ref (jD G a1))] → W p l e (rmm 4 91) s m args below meth c H locs 0 0 (MQ below (qJ G (fun r M' => M' = M ∧ k r)) args s 0 0 (gA G)) (F0 m 110 ls [])) ∧ lp_L_look_38 N a1 M kx38 N x4 0 := by
      refine ⟨_, ?_, h⟩
      intro x7 H locs ls h  B hl
      refine jr_iconst C dL_look_110 ?_
      refine lv_istore_n (lv' := [(3, .int (jI 0)), (1, .long x7), (0, .ref (jD G a1))]) C.1 C.2.1 dL_look_111 rfl hl (by decide) rfl (fun ls hl => ?_)
      obtain ⟨kx112, hkx112, h⟩ : ∃ kx112 : Int64 → Prop, (∀ (x10 : Int64) (H : Heap) (locs : List Loc) (ls : Array Slot), kx112 x10 → Hp G M s.heap H locs → lv_has ls 8 [(1, .long x10)] → W p l e (rmm 4 91) s m args below meth c H locs 0 0 (MQ below (qJ G (fun r M' => M' = M ∧ k r)) args s 0 0 (gA G)) (F0 m 270 ls [])) ∧ lp_L_look_112 N a1 M kx112 N x7 0 := by
        refine ⟨_, ?_, h⟩
        intro x10 H locs ls h  B hl
        refine lv_lload_n C.1 C.2.1 dL_look_270 rfl (lv_at hl 0 rfl) ?_
        exact jr_lret C B hr hlocks ⟨rfl, h⟩ dL_look_271
      have hL112 : ∀ (n : Nat) (x8 : Int64) (x9 : Int) (H : Heap) (locs : List Loc) (ls : Array Slot), lp_L_look_112 N a1 M kx112 n x8 x9 → jR x9 → Hp G M s.heap H locs → lv_has ls 8 [(1, .long x8), (3, .int (jI x9)), (0, .ref (jD G a1))] → W p l e (rmm 4 91) s m args below meth c H locs 0 0 (MQ below (qJ G (fun r M' => M' = M ∧ k r)) args s 0 0 (gA G)) (F0 m 112 ls []) := by
        intro n
        induction n with
        | zero => intro x8 x9 H locs ls h; exact (show False from h).elim
        | succ n ih112 =>
          intro x8 x9 H locs ls h  r_x9 B hl
          rw [lp_L_look_112] at h
          refine lv_iload_n C.1 C.2.1 dL_look_112 rfl (lv_at hl 1 rfl) ?_
          refine lv_aload_n C.1 C.2.1 dL_look_113 rfl (lv_at hl 2 rfl) ?_
          refine cl_X6_records C hl.1 B q_259 ⟨Nat.le_of_ble_eq_true rfl, Nat.le_of_ble_eq_true rfl⟩ ⟨Nat.zero_le _, Nat.zero_le _⟩ (Nat.le_of_ble_eq_true rfl) k_a1 h dL_look_114 (fun x11 r_x11 _ _ h B => ?_)
          refine jr_icmp_ge (tgt := 270) C r_x9 r_x11 h dL_look_117 (by decide) (fun hc117 h => ?_) (fun hc117 h => ?_)
          · refine lv_aload_n C.1 C.2.1 dL_look_120 rfl (lv_at hl 2 rfl) ?_
            refine lv_iload_n C.1 C.2.1 dL_look_121 rfl (lv_at hl 1 rfl) ?_
            refine cl_X6_recordAt C hl.1 B q_263 ⟨Nat.le_of_ble_eq_true rfl, Nat.le_of_ble_eq_true rfl⟩ ⟨Nat.zero_le _, Nat.zero_le _⟩ (Nat.le_of_ble_eq_true rfl) k_a1 r_x9 h dL_look_122 (fun x12 r_x12 _ _ h B => ?_)
            refine lv_istore (lv' := [(4, .int (jI x12)), (1, .long x8), (3, .int (jI x9)), (0, .ref (jD G a1))]) C.1 C.2.1 dL_look_125 hl (by decide) rfl (fun ls hl => ?_)
            refine jr_ldc2 C q_228 dL_look_127 ?_
            refine jr_ldc2 C q_228 dL_look_130 ?_
            refine lv_lload_n C.1 C.2.1 dL_look_133 rfl (lv_at hl 1 rfl) ?_
            refine lv_lmul C.1 C.2.1 dL_look_134 ?_
            refine lv_iload C.1 C.2.1 dL_look_135 (lv_at hl 0 rfl) ?_
            refine lv_i2l C.1 C.2.1 dL_look_137 rfl ?_
            refine lv_ladd C.1 C.2.1 dL_look_138 ?_
            refine lv_lmul C.1 C.2.1 dL_look_139 ?_
            refine lv_aload_n C.1 C.2.1 dL_look_140 rfl (lv_at hl 3 rfl) ?_
            refine lv_iload C.1 C.2.1 dL_look_141 (lv_at hl 0 rfl) ?_
            refine cl_X6_locker C hl.1 B q_267 ⟨Nat.le_of_ble_eq_true rfl, Nat.le_of_ble_eq_true rfl⟩ ⟨Nat.zero_le _, Nat.zero_le _⟩ (Nat.le_of_ble_eq_true rfl) k_a1 r_x12 h dL_look_143 (fun x13 r_x13 _ _ h B => ?_)
            refine lv_i2l C.1 C.2.1 dL_look_146 rfl ?_
            refine lv_ladd C.1 C.2.1 dL_look_147 ?_
            refine jr_nmj h (fun x14 h => ?_)
            refine lv_lstore_n (lv' := [(1, .long x14), (4, .int (jI x12)), (3, .int (jI x9)), (0, .ref (jD G a1))]) C.1 C.2.1 dL_look_148 rfl hl (by decide) rfl (fun ls hl => ?_)
            refine jr_iconst C dL_look_149 ?_
            refine lv_istore (lv' := [(5, .int (jI 0)), (1, .long x14), (4, .int (jI x12)), (3, .int (jI x9)), (0, .ref (jD G a1))]) C.1 C.2.1 dL_look_150 hl (by decide) rfl (fun ls hl => ?_)
            obtain ⟨kx152, hkx152, h⟩ : ∃ kx152 : Int64 → Prop, (∀ (x17 : Int64) (H : Heap) (locs : List Loc) (ls : Array Slot), kx152 x17 → Hp G M s.heap H locs → lv_has ls 8 [(1, .long x17), (3, .int (jI x9)), (0, .ref (jD G a1))] → W p l e (rmm 4 91) s m args below meth c H locs 0 0 (MQ below (qJ G (fun r M' => M' = M ∧ k r)) args s 0 0 (gA G)) (F0 m 264 ls [])) ∧ lp_L_look_152 N a1 x12 M kx152 N x14 0 := by
              refine ⟨_, ?_, h⟩
              intro x17 H locs ls h  B hl
              refine jr_iinc (k := 1) (lv' := fun x18 => [(3, .int (jI x18)), (1, .long x17), (0, .ref (jD G a1))]) C h hl rfl (by decide) (fun _ => rfl) dL_look_264 (fun x18 h r_x18 ls hl => ?_)
              refine lv_goto (tgt := 112) C.1 C.2.1 dL_look_267 (by decide) ?_
              exact ih112 _ _ _ _ _ h r_x18 B (lv_sub hl [1, 0, 2] rfl)
            have hL152 : ∀ (n : Nat) (x15 : Int64) (x16 : Int) (H : Heap) (locs : List Loc) (ls : Array Slot), lp_L_look_152 N a1 x12 M kx152 n x15 x16 → jR x16 → Hp G M s.heap H locs → lv_has ls 8 [(1, .long x15), (5, .int (jI x16)), (4, .int (jI x12)), (3, .int (jI x9)), (0, .ref (jD G a1))] → W p l e (rmm 4 91) s m args below meth c H locs 0 0 (MQ below (qJ G (fun r M' => M' = M ∧ k r)) args s 0 0 (gA G)) (F0 m 152 ls []) := by
              intro n
              induction n with
              | zero => intro x15 x16 H locs ls h; exact (show False from h).elim
              | succ n ih152 =>
                intro x15 x16 H locs ls h  r_x16 B hl
                rw [lp_L_look_152] at h
                refine lv_iload C.1 C.2.1 dL_look_152 (lv_at hl 1 rfl) ?_
                refine jr_iconst C dL_look_154 ?_
                refine jr_icmp_ge (tgt := 264) C r_x16 (jkc rfl) h dL_look_155 (by decide) (fun hc155 h => ?_) (fun hc155 h => ?_)
                · refine jr_ldc2 C q_228 dL_look_158 ?_
                  refine lv_lload_n C.1 C.2.1 dL_look_161 rfl (lv_at hl 0 rfl) ?_
                  refine lv_lmul C.1 C.2.1 dL_look_162 ?_
                  refine lv_aload_n C.1 C.2.1 dL_look_163 rfl (lv_at hl 4 rfl) ?_
                  refine lv_iload C.1 C.2.1 dL_look_164 (lv_at hl 2 rfl) ?_
                  refine lv_iload C.1 C.2.1 dL_look_166 (lv_at hl 1 rfl) ?_
                  refine cl_X6_values C hl.1 B q_275 ⟨Nat.le_of_ble_eq_true rfl, Nat.le_of_ble_eq_true rfl⟩ ⟨Nat.zero_le _, Nat.zero_le _⟩ (Nat.le_of_ble_eq_true rfl) k_a1 r_x12 r_x16 h dL_look_168 (fun x19 r_x19 _ _ h B => ?_)
                  refine lv_i2l C.1 C.2.1 dL_look_171 rfl ?_
                  refine lv_ladd C.1 C.2.1 dL_look_172 ?_
                  refine jr_nmj h (fun x20 h => ?_)
                  refine lv_lstore_n (lv' := [(1, .long x20), (5, .int (jI x16)), (4, .int (jI x12)), (3, .int (jI x9)), (0, .ref (jD G a1))]) C.1 C.2.1 dL_look_173 rfl hl (by decide) rfl (fun ls hl => ?_)
                  refine jr_iconst C dL_look_174 ?_
                  refine lv_istore (lv' := [(6, .int (jI 0)), (1, .long x20), (5, .int (jI x16)), (4, .int (jI x12)), (3, .int (jI x9)), (0, .ref (jD G a1))]) C.1 C.2.1 dL_look_175 hl (by decide) rfl (fun ls hl => ?_)
                  obtain ⟨kx177, hkx177, h⟩ : ∃ kx177 : Int64 → Prop, (∀ (x23 : Int64) (H : Heap) (locs : List Loc) (ls : Array Slot), kx177 x23 → Hp G M s.heap H locs → lv_has ls 8 [(1, .long x23), (5, .int (jI x16)), (4, .int (jI x12)), (3, .int (jI x9)), (0, .ref (jD G a1))] → W p l e (rmm 4 91) s m args below meth c H locs 0 0 (MQ below (qJ G (fun r M' => M' = M ∧ k r)) args s 0 0 (gA G)) (F0 m 258 ls [])) ∧ lp_L_look_177 N a1 x12 x16 M kx177 N x20 0 := by
                    refine ⟨_, ?_, h⟩
                    intro x23 H locs ls h  B hl
                    refine jr_iinc (k := 1) (lv' := fun x24 => [(5, .int (jI x24)), (1, .long x23), (4, .int (jI x12)), (3, .int (jI x9)), (0, .ref (jD G a1))]) C h hl rfl (by decide) (fun _ => rfl) dL_look_258 (fun x24 h r_x24 ls hl => ?_)
                    refine lv_goto (tgt := 152) C.1 C.2.1 dL_look_261 (by decide) ?_
                    exact ih152 _ _ _ _ _ h r_x24 B (lv_sub hl [1, 0, 2, 3, 4] rfl)
                  have hL177 : ∀ (n : Nat) (x21 : Int64) (x22 : Int) (H : Heap) (locs : List Loc) (ls : Array Slot), lp_L_look_177 N a1 x12 x16 M kx177 n x21 x22 → jR x22 → Hp G M s.heap H locs → lv_has ls 8 [(1, .long x21), (6, .int (jI x22)), (5, .int (jI x16)), (4, .int (jI x12)), (3, .int (jI x9)), (0, .ref (jD G a1))] → W p l e (rmm 4 91) s m args below meth c H locs 0 0 (MQ below (qJ G (fun r M' => M' = M ∧ k r)) args s 0 0 (gA G)) (F0 m 177 ls []) := by
                    intro n
                    induction n with
                    | zero => intro x21 x22 H locs ls h; exact (show False from h).elim
                    | succ n ih177 =>
                      intro x21 x22 H locs ls h  r_x22 B hl
                      rw [lp_L_look_177] at h
                      refine lv_iload C.1 C.2.1 dL_look_177 (lv_at hl 1 rfl) ?_
                      refine lv_aload_n C.1 C.2.1 dL_look_179 rfl (lv_at hl 5 rfl) ?_
                      refine lv_iload C.1 C.2.1 dL_look_180 (lv_at hl 3 rfl) ?_
                      refine lv_iload C.1 C.2.1 dL_look_182 (lv_at hl 2 rfl) ?_
                      refine cl_X6_values C hl.1 B q_275 ⟨Nat.le_of_ble_eq_true rfl, Nat.le_of_ble_eq_true rfl⟩ ⟨Nat.zero_le _, Nat.zero_le _⟩ (Nat.le_of_ble_eq_true rfl) k_a1 r_x12 r_x16 h dL_look_184 (fun x25 r_x25 _ _ h B => ?_)
                      refine jr_icmp_ge (tgt := 258) C r_x22 r_x25 h dL_look_187 (by decide) (fun hc187 h => ?_) (fun hc187 h => ?_)
                      · refine jr_ldc2 C q_228 dL_look_190 ?_
                        refine lv_lload_n C.1 C.2.1 dL_look_193 rfl (lv_at hl 0 rfl) ?_
                        refine lv_lmul C.1 C.2.1 dL_look_194 ?_
                        refine lv_aload_n C.1 C.2.1 dL_look_195 rfl (lv_at hl 5 rfl) ?_
                        refine lv_iload C.1 C.2.1 dL_look_196 (lv_at hl 3 rfl) ?_
                        refine lv_iload C.1 C.2.1 dL_look_198 (lv_at hl 2 rfl) ?_
                        refine lv_iload C.1 C.2.1 dL_look_200 (lv_at hl 1 rfl) ?_
                        refine cl_X6_subvalues C hl.1 B q_283 ⟨Nat.le_of_ble_eq_true rfl, Nat.le_of_ble_eq_true rfl⟩ ⟨Nat.zero_le _, Nat.zero_le _⟩ (Nat.le_of_ble_eq_true rfl) k_a1 r_x12 r_x16 r_x22 h dL_look_202 (fun x26 r_x26 _ _ h B => ?_)
                        refine lv_i2l C.1 C.2.1 dL_look_205 rfl ?_
                        refine lv_ladd C.1 C.2.1 dL_look_206 ?_
                        refine jr_nmj h (fun x27 h => ?_)
                        refine lv_lstore_n (lv' := [(1, .long x27), (6, .int (jI x22)), (5, .int (jI x16)), (4, .int (jI x12)), (3, .int (jI x9)), (0, .ref (jD G a1))]) C.1 C.2.1 dL_look_207 rfl hl (by decide) rfl (fun ls hl => ?_)
                        refine jr_iconst C dL_look_208 ?_
                        refine lv_istore (lv' := [(7, .int (jI 0)), (1, .long x27), (6, .int (jI x22)), (5, .int (jI x16)), (4, .int (jI x12)), (3, .int (jI x9)), (0, .ref (jD G a1))]) C.1 C.2.1 dL_look_209 hl (by decide) rfl (fun ls hl => ?_)
                        obtain ⟨kx211, hkx211, h⟩ : ∃ kx211 : Int64 → Prop, (∀ (x30 : Int64) (H : Heap) (locs : List Loc) (ls : Array Slot), kx211 x30 → Hp G M s.heap H locs → lv_has ls 8 [(1, .long x30), (6, .int (jI x22)), (5, .int (jI x16)), (4, .int (jI x12)), (3, .int (jI x9)), (0, .ref (jD G a1))] → W p l e (rmm 4 91) s m args below meth c H locs 0 0 (MQ below (qJ G (fun r M' => M' = M ∧ k r)) args s 0 0 (gA G)) (F0 m 252 ls [])) ∧ lp_L_look_211 N a1 x12 x16 x22 M kx211 N x27 0 := by
                          refine ⟨_, ?_, h⟩
                          intro x30 H locs ls h  B hl
                          refine jr_iinc (k := 1) (lv' := fun x31 => [(6, .int (jI x31)), (1, .long x30), (5, .int (jI x16)), (4, .int (jI x12)), (3, .int (jI x9)), (0, .ref (jD G a1))]) C h hl rfl (by decide) (fun _ => rfl) dL_look_252 (fun x31 h r_x31 ls hl => ?_)
                          refine lv_goto (tgt := 177) C.1 C.2.1 dL_look_255 (by decide) ?_
                          exact ih177 _ _ _ _ _ h r_x31 B (lv_sub hl [1, 0, 2, 3, 4, 5] rfl)
                        have hL211 : ∀ (n : Nat) (x28 : Int64) (x29 : Int) (H : Heap) (locs : List Loc) (ls : Array Slot), lp_L_look_211 N a1 x12 x16 x22 M kx211 n x28 x29 → jR x29 → Hp G M s.heap H locs → lv_has ls 8 [(1, .long x28), (7, .int (jI x29)), (6, .int (jI x22)), (5, .int (jI x16)), (4, .int (jI x12)), (3, .int (jI x9)), (0, .ref (jD G a1))] → W p l e (rmm 4 91) s m args below meth c H locs 0 0 (MQ below (qJ G (fun r M' => M' = M ∧ k r)) args s 0 0 (gA G)) (F0 m 211 ls []) := by
                          intro n
                          induction n with
                          | zero => intro x28 x29 H locs ls h; exact (show False from h).elim
                          | succ n ih211 =>
                            intro x28 x29 H locs ls h  r_x29 B hl
                            rw [lp_L_look_211] at h
                            refine lv_iload C.1 C.2.1 dL_look_211 (lv_at hl 1 rfl) ?_
                            refine lv_aload_n C.1 C.2.1 dL_look_213 rfl (lv_at hl 6 rfl) ?_
                            refine lv_iload C.1 C.2.1 dL_look_214 (lv_at hl 4 rfl) ?_
                            refine lv_iload C.1 C.2.1 dL_look_216 (lv_at hl 3 rfl) ?_
                            refine lv_iload C.1 C.2.1 dL_look_218 (lv_at hl 2 rfl) ?_
                            refine cl_X6_subvalues C hl.1 B q_283 ⟨Nat.le_of_ble_eq_true rfl, Nat.le_of_ble_eq_true rfl⟩ ⟨Nat.zero_le _, Nat.zero_le _⟩ (Nat.le_of_ble_eq_true rfl) k_a1 r_x12 r_x16 r_x22 h dL_look_220 (fun x32 r_x32 _ _ h B => ?_)
                            refine jr_icmp_ge (tgt := 252) C r_x29 r_x32 h dL_look_223 (by decide) (fun hc223 h => ?_) (fun hc223 h => ?_)
                            · refine jr_ldc2 C q_228 dL_look_226 ?_
                              refine lv_lload_n C.1 C.2.1 dL_look_229 rfl (lv_at hl 0 rfl) ?_
                              refine lv_lmul C.1 C.2.1 dL_look_230 ?_
                              refine lv_aload_n C.1 C.2.1 dL_look_231 rfl (lv_at hl 6 rfl) ?_
                              refine lv_iload C.1 C.2.1 dL_look_232 (lv_at hl 4 rfl) ?_
                              refine lv_iload C.1 C.2.1 dL_look_234 (lv_at hl 3 rfl) ?_
                              refine lv_iload C.1 C.2.1 dL_look_236 (lv_at hl 2 rfl) ?_
                              refine lv_iload C.1 C.2.1 dL_look_238 (lv_at hl 1 rfl) ?_
                              refine cl_X6_get C hl.1 B q_296 ⟨Nat.le_of_ble_eq_true rfl, Nat.le_of_ble_eq_true rfl⟩ ⟨Nat.zero_le _, Nat.zero_le _⟩ (Nat.le_of_ble_eq_true rfl) k_a1 r_x12 r_x16 r_x22 r_x29 h dL_look_240 (fun x33 r_x33 _ _ h B => ?_)
                              refine lv_i2l C.1 C.2.1 dL_look_243 rfl ?_
                              refine lv_ladd C.1 C.2.1 dL_look_244 ?_
                              refine jr_nmj h (fun x34 h => ?_)
                              refine lv_lstore_n (lv' := [(1, .long x34), (7, .int (jI x29)), (6, .int (jI x22)), (5, .int (jI x16)), (4, .int (jI x12)), (3, .int (jI x9)), (0, .ref (jD G a1))]) C.1 C.2.1 dL_look_245 rfl hl (by decide) rfl (fun ls hl => ?_)
                              refine jr_iinc (k := 1) (lv' := fun x35 => [(7, .int (jI x35)), (1, .long x34), (6, .int (jI x22)), (5, .int (jI x16)), (4, .int (jI x12)), (3, .int (jI x9)), (0, .ref (jD G a1))]) C h hl rfl (by decide) (fun _ => rfl) dL_look_246 (fun x35 h r_x35 ls hl => ?_)
                              refine lv_goto (tgt := 211) C.1 C.2.1 dL_look_249 (by decide) ?_
                              exact ih211 _ _ _ _ _ h r_x35 B (lv_sub hl [1, 0, 2, 3, 4, 5, 6] rfl)
                            · exact hkx211 _ _ _ _ h  B (lv_sub hl [0, 2, 3, 4, 5, 6] rfl)
                        exact hL211 N _ _ _ _ _ h (jkc rfl) B (lv_sub hl [1, 0, 2, 3, 4, 5, 6] rfl)
                      · exact hkx177 _ _ _ _ h  B (lv_sub hl [0, 2, 3, 4, 5] rfl)
                  exact hL177 N _ _ _ _ _ h (jkc rfl) B (lv_sub hl [1, 0, 2, 3, 4, 5] rfl)
                · exact hkx152 _ _ _ _ h  B (lv_sub hl [0, 3, 4] rfl)
            exact hL152 N _ _ _ _ _ h (jkc rfl) B (lv_sub hl [1, 0, 2, 3, 4] rfl)
          · exact hkx112 _ _ _ _ h  B (lv_sub hl [0] rfl)
      exact hL112 N _ _ _ _ _ h (jkc rfl) B (lv_sub hl [1, 0, 2] rfl)
    have hL38 : ∀ (n : Nat) (x5 : Int64) (x6 : Int) (H : Heap) (locs : List Loc) (ls : Array Slot), lp_L_look_38 N a1 M kx38 n x5 x6 → jR x6 → Hp G M s.heap H locs → lv_has ls 8 [(1, .long x5), (3, .int (jI x6)), (0, .ref (jD G a1))] → W p l e (rmm 4 91) s m args below meth c H locs 0 0 (MQ below (qJ G (fun r M' => M' = M ∧ k r)) args s 0 0 (gA G)) (F0 m 38 ls []) := by
      intro n
      induction n with
      | zero => intro x5 x6 H locs ls h; exact (show False from h).elim
      | succ n ih38 =>
        intro x5 x6 H locs ls h  r_x6 B hl
        rw [lp_L_look_38] at h
        refine lv_iload_n C.1 C.2.1 dL_look_38 rfl (lv_at hl 1 rfl) ?_
        refine jr_bipush C dL_look_39 (by decide) ?_
        refine jr_icmp_ge (tgt := 110) C r_x6 (jkc rfl) h dL_look_41 (by decide) (fun hc41 h => ?_) (fun hc41 h => ?_)
        · refine jr_ldc2 C q_228 dL_look_44 ?_
          refine jr_ldc2 C q_228 dL_look_47 ?_
          refine lv_lload_n C.1 C.2.1 dL_look_50 rfl (lv_at hl 0 rfl) ?_
          refine lv_lmul C.1 C.2.1 dL_look_51 ?_
          refine lv_aload_n C.1 C.2.1 dL_look_52 rfl (lv_at hl 2 rfl) ?_
          refine lv_iload_n C.1 C.2.1 dL_look_53 rfl (lv_at hl 1 rfl) ?_
          refine jr_iconst C dL_look_54 ?_
          refine jr_irem C (by decide) dL_look_55 ?_
          refine cl_X6_associated C hl.1 B q_238 ⟨Nat.le_of_ble_eq_true rfl, Nat.le_of_ble_eq_true rfl⟩ ⟨Nat.zero_le _, Nat.zero_le _⟩ (Nat.le_of_ble_eq_true rfl) k_a1 (jRem_R _ _) h dL_look_56 (fun x36 r_x36 _ _ h B => ?_)
          refine lv_i2l C.1 C.2.1 dL_look_59 rfl ?_
          refine lv_ladd C.1 C.2.1 dL_look_60 ?_
          refine lv_lmul C.1 C.2.1 dL_look_61 ?_
          refine lv_aload_n C.1 C.2.1 dL_look_62 rfl (lv_at hl 2 rfl) ?_
          refine lv_iload_n C.1 C.2.1 dL_look_63 rfl (lv_at hl 1 rfl) ?_
          refine cl_X6_listSize C hl.1 B q_242 ⟨Nat.le_of_ble_eq_true rfl, Nat.le_of_ble_eq_true rfl⟩ ⟨Nat.zero_le _, Nat.zero_le _⟩ (Nat.le_of_ble_eq_true rfl) k_a1 r_x6 h dL_look_64 (fun x37 r_x37 _ _ h B => ?_)
          refine lv_i2l C.1 C.2.1 dL_look_67 rfl ?_
          refine lv_ladd C.1 C.2.1 dL_look_68 ?_
          refine jr_nmj h (fun x38 h => ?_)
          refine lv_lstore_n (lv' := [(1, .long x38), (3, .int (jI x6)), (0, .ref (jD G a1))]) C.1 C.2.1 dL_look_69 rfl hl (by decide) rfl (fun ls hl => ?_)
          refine jr_iconst C dL_look_70 ?_
          refine lv_istore (lv' := [(4, .int (jI 0)), (1, .long x38), (3, .int (jI x6)), (0, .ref (jD G a1))]) C.1 C.2.1 dL_look_71 hl (by decide) rfl (fun ls hl => ?_)
          obtain ⟨kx73, hkx73, h⟩ : ∃ kx73 : Int64 → Prop, (∀ (x41 : Int64) (H : Heap) (locs : List Loc) (ls : Array Slot), kx73 x41 → Hp G M s.heap H locs → lv_has ls 8 [(1, .long x41), (3, .int (jI x6)), (0, .ref (jD G a1))] → W p l e (rmm 4 91) s m args below meth c H locs 0 0 (MQ below (qJ G (fun r M' => M' = M ∧ k r)) args s 0 0 (gA G)) (F0 m 104 ls [])) ∧ lp_L_look_73 N a1 x6 M kx73 N x38 0 := by
            refine ⟨_, ?_, h⟩
            intro x41 H locs ls h  B hl
            refine jr_iinc (k := 1) (lv' := fun x42 => [(3, .int (jI x42)), (1, .long x41), (0, .ref (jD G a1))]) C h hl rfl (by decide) (fun _ => rfl) dL_look_104 (fun x42 h r_x42 ls hl => ?_)
            refine lv_goto (tgt := 38) C.1 C.2.1 dL_look_107 (by decide) ?_
            exact ih38 _ _ _ _ _ h r_x42 B (lv_sub hl [1, 0, 2] rfl)
          have hL73 : ∀ (n : Nat) (x39 : Int64) (x40 : Int) (H : Heap) (locs : List Loc) (ls : Array Slot), lp_L_look_73 N a1 x6 M kx73 n x39 x40 → jR x40 → Hp G M s.heap H locs → lv_has ls 8 [(1, .long x39), (4, .int (jI x40)), (3, .int (jI x6)), (0, .ref (jD G a1))] → W p l e (rmm 4 91) s m args below meth c H locs 0 0 (MQ below (qJ G (fun r M' => M' = M ∧ k r)) args s 0 0 (gA G)) (F0 m 73 ls []) := by
            intro n
            induction n with
            | zero => intro x39 x40 H locs ls h; exact (show False from h).elim
            | succ n ih73 =>
              intro x39 x40 H locs ls h  r_x40 B hl
              rw [lp_L_look_73] at h
              refine lv_iload C.1 C.2.1 dL_look_73 (lv_at hl 1 rfl) ?_
              refine lv_aload_n C.1 C.2.1 dL_look_75 rfl (lv_at hl 3 rfl) ?_
              refine lv_iload_n C.1 C.2.1 dL_look_76 rfl (lv_at hl 2 rfl) ?_
              refine cl_X6_listSize C hl.1 B q_242 ⟨Nat.le_of_ble_eq_true rfl, Nat.le_of_ble_eq_true rfl⟩ ⟨Nat.zero_le _, Nat.zero_le _⟩ (Nat.le_of_ble_eq_true rfl) k_a1 r_x6 h dL_look_77 (fun x43 r_x43 _ _ h B => ?_)
              refine jr_icmp_ge (tgt := 104) C r_x40 r_x43 h dL_look_80 (by decide) (fun hc80 h => ?_) (fun hc80 h => ?_)
              · refine jr_ldc2 C q_228 dL_look_83 ?_
                refine lv_lload_n C.1 C.2.1 dL_look_86 rfl (lv_at hl 0 rfl) ?_
                refine lv_lmul C.1 C.2.1 dL_look_87 ?_
                refine lv_aload_n C.1 C.2.1 dL_look_88 rfl (lv_at hl 3 rfl) ?_
                refine lv_iload_n C.1 C.2.1 dL_look_89 rfl (lv_at hl 2 rfl) ?_
                refine lv_iload C.1 C.2.1 dL_look_90 (lv_at hl 1 rfl) ?_
                refine cl_X6_listAt C hl.1 B q_254 ⟨Nat.le_of_ble_eq_true rfl, Nat.le_of_ble_eq_true rfl⟩ ⟨Nat.zero_le _, Nat.zero_le _⟩ (Nat.le_of_ble_eq_true rfl) k_a1 r_x6 r_x40 h dL_look_92 (fun x44 r_x44 _ _ h B => ?_)
                refine lv_i2l C.1 C.2.1 dL_look_95 rfl ?_
                refine lv_ladd C.1 C.2.1 dL_look_96 ?_
                refine jr_nmj h (fun x45 h => ?_)
                refine lv_lstore_n (lv' := [(1, .long x45), (4, .int (jI x40)), (3, .int (jI x6)), (0, .ref (jD G a1))]) C.1 C.2.1 dL_look_97 rfl hl (by decide) rfl (fun ls hl => ?_)
                refine jr_iinc (k := 1) (lv' := fun x46 => [(4, .int (jI x46)), (1, .long x45), (3, .int (jI x6)), (0, .ref (jD G a1))]) C h hl rfl (by decide) (fun _ => rfl) dL_look_98 (fun x46 h r_x46 ls hl => ?_)
                refine lv_goto (tgt := 73) C.1 C.2.1 dL_look_101 (by decide) ?_
                exact ih73 _ _ _ _ _ h r_x46 B (lv_sub hl [1, 0, 2, 3] rfl)
              · exact hkx73 _ _ _ _ h  B (lv_sub hl [0, 2, 3] rfl)
          exact hL73 N _ _ _ _ _ h (jkc rfl) B (lv_sub hl [1, 0, 2, 3] rfl)
        · exact hkx38 _ _ _ _ h  B (lv_sub hl [0, 2] rfl)
    exact hL38 N _ _ _ _ _ h (jkc rfl) B (lv_sub hl [1, 0, 2] rfl)
  have hL6 : ∀ (n : Nat) (x2 : Int64) (x3 : Int) (H : Heap) (locs : List Loc) (ls : Array Slot), lp_L_look_6 a1 M kx6 n x2 x3 → jR x3 → Hp G M s.heap H locs → lv_has ls 8 [(1, .long x2), (3, .int (jI x3)), (0, .ref (jD G a1))] → W p l e (rmm 4 91) s m args below meth c H locs 0 0 (MQ below (qJ G (fun r M' => M' = M ∧ k r)) args s 0 0 (gA G)) (F0 m 6 ls []) := by
    intro n
    induction n with
    | zero => intro x2 x3 H locs ls h; exact (show False from h).elim
    | succ n ih6 =>
      intro x2 x3 H locs ls h  r_x3 B hl
      rw [lp_L_look_6] at h
      refine lv_iload_n C.1 C.2.1 dL_look_6 rfl (lv_at hl 1 rfl) ?_
      refine jr_bipush C dL_look_7 (by decide) ?_
      refine jr_icmp_ge (tgt := 36) C r_x3 (jkc rfl) h dL_look_9 (by decide) (fun hc9 h => ?_) (fun hc9 h => ?_)
      · refine jr_ldc2 C q_228 dL_look_12 ?_
        refine lv_lload_n C.1 C.2.1 dL_look_15 rfl (lv_at hl 0 rfl) ?_
        refine lv_lmul C.1 C.2.1 dL_look_16 ?_
        refine lv_aload_n C.1 C.2.1 dL_look_17 rfl (lv_at hl 2 rfl) ?_
        refine lv_iload_n C.1 C.2.1 dL_look_18 rfl (lv_at hl 1 rfl) ?_
        refine jr_iconst C dL_look_19 ?_
        refine jr_idiv C (by decide) dL_look_20 ?_
        refine lv_iload_n C.1 C.2.1 dL_look_21 rfl (lv_at hl 1 rfl) ?_
        refine jr_iconst C dL_look_22 ?_
        refine jr_irem C (by decide) dL_look_23 ?_
        refine cl_X6_column C hl.1 B q_229 ⟨Nat.le_of_ble_eq_true rfl, Nat.le_of_ble_eq_true rfl⟩ ⟨Nat.zero_le _, Nat.zero_le _⟩ (Nat.le_of_ble_eq_true rfl) k_a1 (jDiv_R _ _) (jRem_R _ _) h dL_look_24 (fun x47 r_x47 _ _ h B => ?_)
        refine lv_i2l C.1 C.2.1 dL_look_27 rfl ?_
        refine lv_ladd C.1 C.2.1 dL_look_28 ?_
        refine jr_nmj h (fun x48 h => ?_)
        refine lv_lstore_n (lv' := [(1, .long x48), (3, .int (jI x3)), (0, .ref (jD G a1))]) C.1 C.2.1 dL_look_29 rfl hl (by decide) rfl (fun ls hl => ?_)
        refine jr_iinc (k := 1) (lv' := fun x49 => [(3, .int (jI x49)), (1, .long x48), (0, .ref (jD G a1))]) C h hl rfl (by decide) (fun _ => rfl) dL_look_30 (fun x49 h r_x49 ls hl => ?_)
        refine lv_goto (tgt := 6) C.1 C.2.1 dL_look_33 (by decide) ?_
        exact ih6 _ _ _ _ _ h r_x49 B (lv_sub hl [1, 0, 2] rfl)
      · exact hkx6 _ _ _ _ h  B (lv_sub hl [0, 2] rfl)
  exact hL6 N _ _ _ _ _ h (jkc rfl) B (lv_sub hl [1, 0, 2] rfl)
theorem cl_L_look {p : Program} {l : Launch} {e : Env} {R : Room} {s : State} {m : MethodId} {args : Array Value} {below : List Frame} {meth : Method} {c : Code} {H : Heap} {locs : List Loc} {cells slots : Nat} {Q : State → Prop} {cc : ByteArray} {nL : Nat} {own : String} {G : jG} {H0 : Heap} {pc idx : Nat} {ls : Array Slot} {rest : List Value} {N : Nat} {M : jM} {a1 : Int} {k : Int64 → Prop} (C : Cx G p s args m c cc nL own) (hl : ls.size = nL) (B : Hp G M H0 H locs) (q1 : Cond.methodLink own idx yL_look ∈ tb) (hR : (rmm 4 91).frames + 1 ≤ R.frames ∧ 8 + (8 + 11) + (rmm 4 91).locals ≤ R.locals) (hcs : cells ≤ R.cells ∧ slots ≤ R.slots) (hW : (rest.map fun v => v.category).sum ≤ 8) (k_a1 : jK a1 = 7) (h : w_L_look N M a1 k) (hdg : decode cc pc = .ok (.invokestatic idx, 3)) (kk : ∀ (r : Int64), ∀ (H1 : Heap) (locs1 : List Loc), k r → Hp G M H0 H1 locs1 → W p l e R s m args below meth c H1 locs1 cells slots Q (F0 m (pc + 3) ls (.long r :: rest))) : W p l e R s m args below meth c H locs cells slots Q (F0 m pc ls (.ref (jD G a1) :: rest)) :=
  jr_callJ B (jr_runS (As := [.ref (jD G a1)]) (n := 1) C hl B (m_L_look B.2.2 k_a1 h) q1 q_225 q_226 q_0 ⟨by decide, by decide, by decide +kernel⟩ rfl ⟨rfl, rfl⟩ hR hcs rfl hW hdg) (fun r M' H1 locs1 hk B1 => by obtain ⟨rfl, hk⟩ := hk; exact kk r H1 locs1 hk B1)
