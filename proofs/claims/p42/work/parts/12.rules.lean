/-! cells by kind -/
theorem jE1 {G : jG} {M : jM} {c : Int} (h : jK c = 1) : jE G M c = .inr (0, [.ref (jD G (c + 1)), .ref (jD G (c + 2)), .ref (jD G (c + 3)), .int (jI (M c 3)), .int (jI (M c 4))]) := by simp [jE, h]
theorem jE2 {G : jG} {M : jM} {c : Int} (h : jK c = 2) : jE G M c = .inr (1, [.int (jI (M c 0)), .int (jI (M c 1)), .ref (jD G (c + 1)), .ref (jD G (c + 2)), .ref (jD G (c + 3))]) := by simp [jE, h]
theorem jE3 {G : jG} {M : jM} {c : Int} (h : jK c = 3) : jE G M c = .inr (2, [.ref (jD G (c + 1)), .int (jI (M c 1))]) := by simp [jE, h]
theorem jE4 {G : jG} {M : jM} {c : Int} (h : jK c = 4) : jE G M c = .inr (3, [.ref (jD G (c + 1)), .int (jI (M c 1))]) := by simp [jE, h]
theorem jE5 {G : jG} {M : jM} {c : Int} (h : jK c = 5) : jE G M c = .inr (4, [.ref (jD G (c + 1)), .int (jI (M c 1)), .ref (jD G (c + 42)), .ref (jD G (c + 43)), .ref (jD G (c + 44)), .ref (jD G (c + 45)), .ref (jD G (c + 46))]) := by simp [jE, h]
theorem jE6 {G : jG} {M : jM} {c : Int} (h : jK c = 6) : jE G M c = .inr (5, [.ref (jD G (c + 1)), .int (jI (M c 1)), .int (jI (M c 2)), .int (jI (M c 3)), .int (jI (M c 4))]) := by simp [jE, h]
theorem jE7 {G : jG} {M : jM} {c : Int} (h : jK c = 7) : jE G M c = .inr (6, [.ref (jD G (c + 1)), .ref (jD G (c + 48)), .int (jI (M c 2)), .ref (jD G (c + 237)), .ref (jD G (c + 239)), .ref (jD G (c + 241)), .ref (jD G (c + 246)), .ref (jD G (c + 248))]) := by simp [jE, h]
theorem jEnk {c : Int} {t : Int} (h : jK c / 10000 = t) (ht : 0 < t) : jK c ≠ 1 ∧ jK c ≠ 2 ∧ jK c ≠ 3 ∧ jK c ≠ 4 ∧ jK c ≠ 5 ∧ jK c ≠ 6 ∧ jK c ≠ 7 ∧ jK c ≠ 8 := by omega
theorem jEi {G : jG} {M : jM} {c : Int} {n : Nat} (h : jK c / 10000 = 1) (hn : jK c % 10000 = (n : Int)) : jE G M c = .inl (G.2.1.1, n, .inl (fun j => jI (M c j))) := by
  obtain ⟨h1, h2, h3, h4, h5, h6, h7, h8⟩ := jEnk h (by omega)
  simp [jE, h, h1, h2, h3, h4, h5, h6, h7, h8, hn]
theorem jEz {G : jG} {M : jM} {c : Int} {n : Nat} (h : jK c / 10000 = 2) (hn : jK c % 10000 = (n : Int)) : jE G M c = .inl (G.2.1.2.1, n, .inl (fun j => jI (M c j))) := by
  obtain ⟨h1, h2, h3, h4, h5, h6, h7, h8⟩ := jEnk h (by omega)
  simp [jE, h, h1, h2, h3, h4, h5, h6, h7, h8, hn]
theorem jEc {G : jG} {M : jM} {c : Int} {n : Nat} (h : jK c / 10000 = 3) (hn : jK c % 10000 = (n : Int)) : jE G M c = .inl (G.2.1.2.2.1, n, .inl (fun j => jI (M c j))) := by
  obtain ⟨h1, h2, h3, h4, h5, h6, h7, h8⟩ := jEnk h (by omega)
  simp [jE, h, h1, h2, h3, h4, h5, h6, h7, h8, hn]
theorem jEr {G : jG} {M : jM} {c : Int} {n : Nat} (h : jK c / 10000 = 4) (hn : jK c % 10000 = (n : Int)) : jE G M c = .inl (G.2.1.2.2.2.1, n, .inr (.inr (.inr (.inr (fun j => some (jD G (M c j))))))) := by
  obtain ⟨h1, h2, h3, h4, h5, h6, h7, h8⟩ := jEnk h (by omega)
  simp [jE, h, h1, h2, h3, h4, h5, h6, h7, h8, hn]
theorem jEs {G : jG} {M : jM} {c : Int} {n : Nat} (h : jK c / 10000 = 5) (hn : jK c % 10000 = (n : Int)) : jE G M c = .inl (G.2.1.2.2.2.2, n, .inr (.inr (.inr (.inr (fun j => some (jD G (M c j))))))) := by
  obtain ⟨h1, h2, h3, h4, h5, h6, h7, h8⟩ := jEnk h (by omega)
  simp [jE, h, h1, h2, h3, h4, h5, h6, h7, h8, hn]
section JR
variable {p : Program} {l : Launch} {e : Env} {R : Room} {s : State} {m : MethodId} {args : Array Value} {below : List Frame} {meth : Method} {c : Code} {H : Heap} {locs : List Loc} {cells slots : Nat} {Q : State → Prop} {cc : ByteArray} {nL : Nat} {own : String} {G : jG} {M : jM} {H0 : Heap} {pc : Nat} {ls : Array Slot} {rest : List Value}
/-! fields -/
theorem jr_get (C : Cx G p s args m c cc nL own) (B : Hp G M H0 H locs) {ci idx : Nat} {R' : String} {T : u_T} {n : Nat} {o : Int} {fs : List Value} (he : jE G M o = .inr (ci, fs)) (h0 : jK o ≠ 0) (hc : vwCl[ci]? = some (R', T, n)) (hin : ∀ w ∈ u_ws R' T n, w ∈ tb) (k : Nat) (hk : k < n) (hl : Cond.fieldLink own idx (T k).1 (T k).2.1 (T k).2.2.1 ∈ tb) {v : Value} (hv : fs[k]? = some v) (hdg : decode cc pc = .ok (.getfield idx, 3))
    (kk : W p l e R s m args below meth c H locs cells slots Q (F0 m (pc + 3) ls (v :: rest))) : W p l e R s m args below meth c H locs cells slots Q (F0 m pc ls (.ref (jD G o) :: rest)) :=
  va_get C.1 C.2.1 C.2.2.2.2.1 hin C.2.2.2.1 C.2.2.2.2.2.1 B.1 o.toNat (by rw [gW_get h0, he]) hc k hk (C.2.2.2.2.1 _ hl) (fun x h => h) hv hdg kk
theorem jr_put (C : Cx G p s args m c cc nL own) (B : Hp G M H0 H locs) {ci idx : Nat} {R' : String} {T : u_T} {n : Nat} {o : Int} {fs : List Value} {M' : jM} (he : jE G M o = .inr (ci, fs)) (h0 : jK o ≠ 0) (hc : vwCl[ci]? = some (R', T, n)) (hin : ∀ w ∈ u_ws R' T n, w ∈ tb) (ty0 : Nat → FieldType) (hty : ∀ k, k < n → parseFieldDescriptor (T k).2.2.1 = some (ty0 k)) (hnm : ∀ a, a < n → ∀ b, b < n → a ≠ b → (T a).2.1 ≠ (T b).2.1) (k : Nat) (hk : k < n) (hl : Cond.fieldLink own idx (T k).1 (T k).2.1 (T k).2.2.1 ∈ tb) (hfin : (T k).2.2.2 = false) {v : Value} (hn : narrow (ty0 k) v = v) (hfit : fits (ty0 k) v = true) (hlen : k < fs.length)
    (he' : jE G M' o = .inr (ci, fs.set k v)) (hM' : ∀ x, x ≠ o → M' x = M x) (hok : jOK M') (hdg : decode cc pc = .ok (.putfield idx, 3))
    (kk : ∀ (H1 : Heap) (locs1 : List Loc), Hp G M' H0 H1 locs1 → W p l e R s m args below meth c H1 locs1 cells slots Q (F0 m (pc + 3) ls rest)) : W p l e R s m args below meth c H locs cells slots Q (F0 m pc ls (v :: .ref (jD G o) :: rest)) := by
  refine va_put C.1 C.2.1 C.2.2.2.2.1 hin ty0 hty hnm C.2.2.2.1 C.2.2.2.2.2.1 B.1 gW_D B.2.1 o.toNat (by rw [gW_get h0, he]) hc k hk (C.2.2.2.2.1 _ hl) (fun x h => h) hfin (hty k hk) hn hfit hlen hdg (fun H1 locs1 hP _ hS => kk H1 locs1 ⟨?_, hS, hok⟩)
  rw [← he', gW_set h0 hM'] at hP
  exact hP
/-! arrays -/
theorem jr_clamp {i : Int} (h0 : 0 ≤ i) (hr : jR i) : (((jI i).toNatClampNeg : Nat) : Int) = i := by rw [jI_cl hr]; omega
theorem jr_iald (C : Cx G p s args m c cc nL own) (B : Hp G M H0 H locs) {a i : Int} (n : Nat) (h1 : jK a / 10000 = 1) (h2 : jK a % 10000 = (n : Int)) (hr : jR i) (hi : 0 ≤ i ∧ i < (n : Int)) (hdg : decode cc pc = .ok (.iaload, 1))
    (kk : W p l e R s m args below meth c H locs cells slots Q (F0 m (pc + 1) ls (.int (jI (M a i)) :: rest))) : W p l e R s m args below meth c H locs cells slots Q (F0 m pc ls (.int (jI i) :: .ref (jD G a) :: rest)) := by
  refine va_iald C.1 C.2.1 C.2.2.2.2.2.1 B.1 a.toNat 0 (n := n) (f := fun j => jI (M a j)) (by rw [gW_get (by omega), jEi h1 h2]) rfl (jI_in hi hr) hdg ?_
  simp only [jr_clamp hi.1 hr]
  exact kk
theorem jr_zald (C : Cx G p s args m c cc nL own) (B : Hp G M H0 H locs) {a i : Int} (n : Nat) (h1 : jK a / 10000 = 2) (h2 : jK a % 10000 = (n : Int)) (hr : jR i) (hi : 0 ≤ i ∧ i < (n : Int)) (hdg : decode cc pc = .ok (.baload, 1))
    (kk : W p l e R s m args below meth c H locs cells slots Q (F0 m (pc + 1) ls (.int (jI (M a i)) :: rest))) : W p l e R s m args below meth c H locs cells slots Q (F0 m pc ls (.int (jI i) :: .ref (jD G a) :: rest)) := by
  refine va_zald C.1 C.2.1 C.2.2.2.2.2.1 B.1 a.toNat 1 (n := n) (f := fun j => jI (M a j)) (by rw [gW_get (by omega), jEz h1 h2]) rfl (jI_in hi hr) hdg ?_
  simp only [jr_clamp hi.1 hr]
  exact kk
theorem jr_cald (C : Cx G p s args m c cc nL own) (B : Hp G M H0 H locs) {a i : Int} (h1 : jK a / 10000 = 3) (hr : jR i) (hi : 0 ≤ i ∧ i < jK a % 10000) (hdg : decode cc pc = .ok (.caload, 1))
    (kk : W p l e R s m args below meth c H locs cells slots Q (F0 m (pc + 1) ls (.int (jI (M a i)) :: rest))) : W p l e R s m args below meth c H locs cells slots Q (F0 m pc ls (.int (jI i) :: .ref (jD G a) :: rest)) := by
  have h2 : jK a % 10000 = (((jK a % 10000).toNat : Nat) : Int) := by omega
  refine va_cald C.1 C.2.1 C.2.2.2.2.2.1 B.1 a.toNat 2 (n := (jK a % 10000).toNat) (f := fun j => jI (M a j)) (by rw [gW_get (by omega), jEc h1 h2]) rfl (jI_in (by omega) hr) hdg ?_
  simp only [jr_clamp hi.1 hr]
  exact kk
theorem jr_rald (C : Cx G p s args m c cc nL own) (B : Hp G M H0 H locs) {a i : Int} (n : Nat) (h1 : jK a / 10000 = 4) (h2 : jK a % 10000 = (n : Int)) (hr : jR i) (hi : 0 ≤ i ∧ i < (n : Int)) (hdg : decode cc pc = .ok (.aaload, 1))
    (kk : jK (M a i) = 2 → W p l e R s m args below meth c H locs cells slots Q (F0 m (pc + 1) ls (.ref (jD G (M a i)) :: rest))) : W p l e R s m args below meth c H locs cells slots Q (F0 m pc ls (.int (jI i) :: .ref (jD G a) :: rest)) := by
  refine va_aldq C.1 C.2.1 C.2.2.2.2.2.1 B.1 a.toNat 3 (n := n) (f := fun j => some (jD G (M a j))) (by rw [gW_get (by omega), jEr h1 h2]) rfl (jI_in hi hr) hdg ?_
  simp only [jr_clamp hi.1 hr]
  exact kk ((B.2.2 a i).2.2.2.1 h1)
theorem jr_sald (C : Cx G p s args m c cc nL own) (B : Hp G M H0 H locs) {a i : Int} (n : Nat) (h1 : jK a / 10000 = 5) (h2 : jK a % 10000 = (n : Int)) (hr : jR i) (hi : 0 ≤ i ∧ i < (n : Int)) (hdg : decode cc pc = .ok (.aaload, 1))
    (kk : jK (M a i) = 5 → W p l e R s m args below meth c H locs cells slots Q (F0 m (pc + 1) ls (.ref (jD G (M a i)) :: rest))) : W p l e R s m args below meth c H locs cells slots Q (F0 m pc ls (.int (jI i) :: .ref (jD G a) :: rest)) := by
  refine va_aldq C.1 C.2.1 C.2.2.2.2.2.1 B.1 a.toNat 4 (n := n) (f := fun j => some (jD G (M a j))) (by rw [gW_get (by omega), jEs h1 h2]) rfl (jI_in hi hr) hdg ?_
  simp only [jr_clamp hi.1 hr]
  exact kk ((B.2.2 a i).2.2.2.2 h1)
theorem jU_row {M : jM} {c i v x : Int} (h : x ≠ c) : jU M c i v x = M x := by
  funext j
  simp [jU, h]
theorem jU_upd {M : jM} {a i v : Int} (h0 : 0 ≤ i) (hr : jR i) : (fun j : Nat => jI (jU M a i v a j)) = upd (fun j : Nat => jI (M a j)) (jI i).toNatClampNeg (jI v) := by
  funext j
  unfold jU upd
  rw [jI_cl hr]
  by_cases h : (j : Int) = i
  · rw [if_pos ⟨rfl, h⟩, if_pos (by omega)]
  · rw [if_neg (fun q => h q.2), if_neg (by omega)]
theorem jU_rup {G : jG} {M : jM} {a i v : Int} (h0 : 0 ≤ i) (hr : jR i) : (fun j : Nat => some (jD G (jU M a i v a j))) = va_up (fun j : Nat => some (jD G (M a j))) (jI i).toNatClampNeg (some (jD G v)) := by
  funext j
  unfold jU va_up
  rw [jI_cl hr]
  by_cases h : (j : Int) = i
  · rw [if_pos ⟨rfl, h⟩, if_pos (by omega)]
  · rw [if_neg (fun q => h q.2), if_neg (by omega)]
theorem jr_iast (C : Cx G p s args m c cc nL own) (B : Hp G M H0 H locs) {a i v : Int} (n : Nat) (h1 : jK a / 10000 = 1) (h2 : jK a % 10000 = (n : Int)) (hr : jR i) (hv : jR v) {P : jM → Prop} (h : (0 ≤ i ∧ i < (n : Int)) ∧ jL (jU M a i v) P) (hdg : decode cc pc = .ok (.iastore, 1))
    (kk : ∀ (M' : jM) (H1 : Heap) (locs1 : List Loc), P M' → Hp G M' H0 H1 locs1 → W p l e R s m args below meth c H1 locs1 cells slots Q (F0 m (pc + 1) ls rest)) : W p l e R s m args below meth c H locs cells slots Q (F0 m pc ls (.int (jI v) :: .int (jI i) :: .ref (jD G a) :: rest)) := by
  refine va_iast C.1 C.2.1 C.2.2.2.2.2.1 B.1 gW_D B.2.1 a.toNat 0 (n := n) (f := fun j => jI (M a j)) (by rw [gW_get (by omega), jEi h1 h2]) rfl (jI_in h.1 hr) hdg (fun H1 locs1 hP _ hS => kk (jU M a i v) H1 locs1 h.2 ⟨?_, hS, jU_ok B.2.2 (jV_i hv (by unfold jZ; omega) (by omega))⟩)
  rw [← jU_upd h.1.1 hr, ← jEi h1 h2, gW_set (by omega) (fun x hx => jU_row hx)] at hP
  exact hP
theorem jI_nz {v : Int} (hv : v = 0 ∨ v = 1) : vp_nar .boolean (jI v) = jI v := by rcases hv with rfl | rfl <;> decide
theorem jr_zast (C : Cx G p s args m c cc nL own) (B : Hp G M H0 H locs) {a i v : Int} (n : Nat) (h1 : jK a / 10000 = 2) (h2 : jK a % 10000 = (n : Int)) (hr : jR i) (hv : v = 0 ∨ v = 1) {P : jM → Prop} (h : (0 ≤ i ∧ i < (n : Int)) ∧ jL (jU M a i v) P) (hdg : decode cc pc = .ok (.bastore, 1))
    (kk : ∀ (M' : jM) (H1 : Heap) (locs1 : List Loc), P M' → Hp G M' H0 H1 locs1 → W p l e R s m args below meth c H1 locs1 cells slots Q (F0 m (pc + 1) ls rest)) : W p l e R s m args below meth c H locs cells slots Q (F0 m pc ls (.int (jI v) :: .int (jI i) :: .ref (jD G a) :: rest)) := by
  refine va_zast C.1 C.2.1 C.2.2.2.2.2.1 B.1 gW_D B.2.1 a.toNat 1 (n := n) (f := fun j => jI (M a j)) (by rw [gW_get (by omega), jEz h1 h2]) rfl (jI_in h.1 hr) hdg (fun H1 locs1 hP _ hS => kk (jU M a i v) H1 locs1 h.2 ⟨?_, hS, jU_ok B.2.2 (jV_z hv (by omega))⟩)
  rw [jI_nz hv, ← jU_upd h.1.1 hr, ← jEz h1 h2, gW_set (by omega) (fun x hx => jU_row hx)] at hP
  exact hP
theorem jI_nc {v : Int} (hv : 0 ≤ v ∧ v < 65536) : vp_nar .char (jI v) = jI v := by
  have e : jI v = nI v.toNat := by
    apply Int32.toInt_inj.mp
    rw [jI_toInt ⟨by omega, by omega⟩, nI_toInt (by omega)]
    omega
  rw [e]
  have h := (pk_charN (q := v.toNat) (by omega)).1
  unfold vp_nar
  rw [h]
theorem jr_cast (C : Cx G p s args m c cc nL own) (B : Hp G M H0 H locs) {a i v : Int} (h1 : jK a / 10000 = 3) (hr : jR i) (hv : 0 ≤ v ∧ v < 65536) {P : jM → Prop} (h : (0 ≤ i ∧ i < jK a % 10000) ∧ jL (jU M a i v) P) (hdg : decode cc pc = .ok (.castore, 1))
    (kk : ∀ (M' : jM) (H1 : Heap) (locs1 : List Loc), P M' → Hp G M' H0 H1 locs1 → W p l e R s m args below meth c H1 locs1 cells slots Q (F0 m (pc + 1) ls rest)) : W p l e R s m args below meth c H locs cells slots Q (F0 m pc ls (.int (jI v) :: .int (jI i) :: .ref (jD G a) :: rest)) := by
  have h2 : jK a % 10000 = (((jK a % 10000).toNat : Nat) : Int) := by omega
  refine va_cast C.1 C.2.1 C.2.2.2.2.2.1 B.1 gW_D B.2.1 a.toNat 2 (n := (jK a % 10000).toNat) (f := fun j => jI (M a j)) (by rw [gW_get (by omega), jEc h1 h2]) rfl (jI_in (by omega) hr) hdg (fun H1 locs1 hP _ hS => kk (jU M a i v) H1 locs1 h.2 ⟨?_, hS, jU_ok B.2.2 (jV_c hv h1)⟩)
  rw [jI_nc hv, ← jU_upd h.1.1 hr, ← jEc h1 h2, gW_set (by omega) (fun x hx => jU_row hx)] at hP
  exact hP
theorem jr_rast (C : Cx G p s args m c cc nL own) (B : Hp G M H0 H locs) {a i v : Int} (n : Nat) (h1 : jK a / 10000 = 4) (h2 : jK a % 10000 = (n : Int)) (hr : jR i) (hv : jK v = 2) {P : jM → Prop} (h : (0 ≤ i ∧ i < (n : Int)) ∧ jL (jU M a i v) P) (hdg : decode cc pc = .ok (.aastore, 1))
    (kk : ∀ (M' : jM) (H1 : Heap) (locs1 : List Loc), P M' → Hp G M' H0 H1 locs1 → W p l e R s m args below meth c H1 locs1 cells slots Q (F0 m (pc + 1) ls rest)) : W p l e R s m args below meth c H locs cells slots Q (F0 m pc ls (.ref (jD G v) :: .int (jI i) :: .ref (jD G a) :: rest)) := by
  refine va_astq C.1 C.2.1 C.2.2.2.2.2.1 B.1 gW_D B.2.1 a.toNat 3 v.toNat 1 (r := (RX1, TX1, 5)) (n := n) (f := fun j => some (jD G (M a j))) (by rw [gW_get (by omega), jEr h1 h2]) rfl (by rw [gW_get (by omega), jE2 hv]) rfl (jI_in h.1 hr) hdg (fun H1 locs1 hP _ hS => kk (jU M a i v) H1 locs1 h.2 ⟨?_, hS, jU_ok B.2.2 (jV_r (jK_R (by omega)) hv h1)⟩)
  rw [← jU_rup h.1.1 hr, ← jEr h1 h2, gW_set (by omega) (fun x hx => jU_row hx)] at hP
  exact hP
theorem jr_sast (C : Cx G p s args m c cc nL own) (B : Hp G M H0 H locs) {a i v : Int} (n : Nat) (h1 : jK a / 10000 = 5) (h2 : jK a % 10000 = (n : Int)) (hr : jR i) (hv : jK v = 5) {P : jM → Prop} (h : (0 ≤ i ∧ i < (n : Int)) ∧ jL (jU M a i v) P) (hdg : decode cc pc = .ok (.aastore, 1))
    (kk : ∀ (M' : jM) (H1 : Heap) (locs1 : List Loc), P M' → Hp G M' H0 H1 locs1 → W p l e R s m args below meth c H1 locs1 cells slots Q (F0 m (pc + 1) ls rest)) : W p l e R s m args below meth c H locs cells slots Q (F0 m pc ls (.ref (jD G v) :: .int (jI i) :: .ref (jD G a) :: rest)) := by
  refine va_astq C.1 C.2.1 C.2.2.2.2.2.1 B.1 gW_D B.2.1 a.toNat 4 v.toNat 4 (r := (RX4, TX4, 7)) (n := n) (f := fun j => some (jD G (M a j))) (by rw [gW_get (by omega), jEs h1 h2]) rfl (by rw [gW_get (by omega), jE5 hv]) rfl (jI_in h.1 hr) hdg (fun H1 locs1 hP _ hS => kk (jU M a i v) H1 locs1 h.2 ⟨?_, hS, jU_ok B.2.2 (jV_s (jK_R (by omega)) hv h1)⟩)
  rw [← jU_rup h.1.1 hr, ← jEs h1 h2, gW_set (by omega) (fun x hx => jU_row hx)] at hP
  exact hP
theorem jr_calen (C : Cx G p s args m c cc nL own) (B : Hp G M H0 H locs) {a : Int} (h1 : jK a / 10000 = 3) (hdg : decode cc pc = .ok (.arraylength, 1))
    (kk : W p l e R s m args below meth c H locs cells slots Q (F0 m (pc + 1) ls (.int (jI (jK a % 10000)) :: rest))) : W p l e R s m args below meth c H locs cells slots Q (F0 m pc ls (.ref (jD G a) :: rest)) := by
  have h2 : jK a % 10000 = (((jK a % 10000).toNat : Nat) : Int) := by omega
  refine va_alen C.1 C.2.1 C.2.2.2.2.2.1 B.1 a.toNat 2 (v := jI (jK a % 10000)) (by rw [gW_get (by omega), jEc h1 h2]) rfl ?_ hdg kk
  rw [h2]
  rfl
/-! copies -/
theorem jC_row {M : jM} {a sp d dp n x : Int} (h : x ≠ d) : jC M a sp d dp n x = M x := by
  funext j
  simp [jC, h]
theorem jC_cpy {M : jM} {a sp d dp n : Int} (h0 : 0 ≤ sp) (h1 : 0 ≤ dp) (h2 : 0 ≤ n) : (fun j : Nat => jI (jC M a sp d dp n d j)) = va_cpy (fun j : Nat => jI (M a j)) (fun j : Nat => jI (M d j)) sp.toNat dp.toNat n.toNat := by
  funext j
  unfold jC va_cpy
  by_cases h : dp ≤ (j : Int) ∧ (j : Int) < dp + n
  · rw [if_pos ⟨rfl, h⟩, if_pos (by omega)]
    congr 2
    omega
  · rw [if_neg (fun q => h q.2), if_neg (by omega)]
theorem jC_ok {M : jM} {a sp d dp n : Int} (h : jOK M) (hk : jK a / 10000 = jK d / 10000) (h1 : jK a / 10000 = 1 ∨ jK a / 10000 = 2) : jOK (jC M a sp d dp n) := by
  intro c' i'
  unfold jC
  split
  · next q =>
    obtain ⟨v1, v2, v3, v4, v5⟩ := h a (sp + (i' - dp))
    rw [q.1]
    refine ⟨v1, fun z => v2 ?_, fun z => by omega, fun z => by omega, fun z => by omega⟩
    unfold jZ at z ⊢
    omega
  · exact h c' i'
theorem jr_copy (C : Cx G p s args m c cc nL own) (B : Hp G M H0 H locs) (hl : ls.size = nL) {idx : Nat} (q1 : Cond.methodLink own idx arraycopyName ∈ tb) (q2 : Cond.native arraycopyName ∈ tb) (q3 : Cond.static arraycopyName ∈ tb) (q4 : Cond.initialized "java/lang/System" ∈ tb) {a b sp dp n : Int} (na nb : Nat) (ha1 : jK a / 10000 = 1 ∨ jK a / 10000 = 2) (hb1 : jK b / 10000 = jK a / 10000) (ha2 : jK a % 10000 = (na : Int)) (hb2 : jK b % 10000 = (nb : Int)) (rs : jR sp) (rd : jR dp) (rn : jR n) {P : jM → Prop} (h : (0 ≤ sp ∧ 0 ≤ dp ∧ 0 ≤ n ∧ sp + n ≤ na ∧ dp + n ≤ nb) ∧ jL (jC M a sp b dp n) P)
    (hf : 1 ≤ R.frames) (hlo : (rest.map fun v => v.category).sum + (nativeFrameWords "java/lang/System" "arraycopy" 5 + 11) ≤ R.locals) (hdg : decode cc pc = .ok (.invokestatic idx, 3))
    (kk : ∀ (M' : jM) (H1 : Heap) (locs1 : List Loc), P M' → Hp G M' H0 H1 locs1 → W p l e R s m args below meth c H1 locs1 cells slots Q (F0 m (pc + 3) ls rest)) : W p l e R s m args below meth c H locs cells slots Q (F0 m pc ls (.int (jI n) :: .int (jI dp) :: .ref (jD G b) :: .int (jI sp) :: .ref (jD G a) :: rest)) := by
  obtain ⟨⟨g1, g2, g3, g4, g5⟩, h⟩ := h
  have hts := C.2.2.2.2.1
  have n1 : ¬ jI sp < 0 := fun q => by have := (jI_lt rs (by decide : jR 0)).mp q; omega
  have n2 : ¬ jI dp < 0 := fun q => by have := (jI_lt rd (by decide : jR 0)).mp q; omega
  have n3 : ¬ jI n < 0 := fun q => by have := (jI_lt rn (by decide : jR 0)).mp q; omega
  have c1 := jI_cl rs
  have c2 := jI_cl rd
  have c3 := jI_cl rn
  rcases ha1 with ha1 | ha1
  · refine va_copyi C.1 C.2.1 (C.2.2.1.trans hl.symm) C.2.2.2.1 (hts _ q1) (hts _ q2) (hts _ q3) (hts _ q4) C.2.2.2.2.2.1 B.1 gW_D B.2.1 a.toNat b.toNat 0 0 (ty := .int) (n0 := na) (n1 := nb) (f := fun j => jI (M a j)) (g := fun j => jI (M b j)) (by rw [gW_get (by omega), jEi ha1 ha2]) (by rw [gW_get (by omega), jEi (hb1.trans ha1) hb2]) rfl rfl rfl n1 n2 n3 (by rw [c1, c3]; omega) (by rw [c2, c3]; omega) (fun _ _ => rfl) hf hlo hdg (fun H1 locs1 hP _ hS => kk (jC M a sp b dp n) H1 locs1 h ⟨?_, hS, jC_ok B.2.2 hb1.symm (Or.inl ha1)⟩)
    rw [c1, c2, c3, ← jC_cpy g1 g2 g3, ← jEi (hb1.trans ha1) hb2, gW_set (by omega) (fun x hx => jC_row hx)] at hP
    exact hP
  · refine va_copyi C.1 C.2.1 (C.2.2.1.trans hl.symm) C.2.2.2.1 (hts _ q1) (hts _ q2) (hts _ q3) (hts _ q4) C.2.2.2.2.2.1 B.1 gW_D B.2.1 a.toNat b.toNat 1 1 (ty := .boolean) (n0 := na) (n1 := nb) (f := fun j => jI (M a j)) (g := fun j => jI (M b j)) (by rw [gW_get (by omega), jEz ha1 ha2]) (by rw [gW_get (by omega), jEz (hb1.trans ha1) hb2]) rfl rfl rfl n1 n2 n3 (by rw [c1, c3]; omega) (by rw [c2, c3]; omega) (fun i _ => ?_) hf hlo hdg (fun H1 locs1 hP _ hS => kk (jC M a sp b dp n) H1 locs1 h ⟨?_, hS, jC_ok B.2.2 hb1.symm (Or.inr ha1)⟩)
    · have hz := (B.2.2 a (((jI sp).toNatClampNeg + i : Nat) : Int)).2.1 (Or.inl ha1)
      show fits .boolean (.int (jI (M a (((jI sp).toNatClampNeg + i : Nat) : Int)))) = true
      rcases hz with hz | hz <;> rw [hz] <;> decide
    · rw [c1, c2, c3, ← jC_cpy g1 g2 g3, ← jEz (hb1.trans ha1) hb2, gW_set (by omega) (fun x hx => jC_row hx)] at hP
      exact hP
end JR
