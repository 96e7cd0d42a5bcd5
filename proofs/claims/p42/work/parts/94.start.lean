/-! THE START: the tables at the entry, both objects made, the loop -/
theorem k_10 : (Cond.classLink "MultiValueFileLaw" (14 : Nat) "MultiValueFile") ∈ tb := tb_mem (List.mem_of_getElem? (i := 10) (by decide +kernel)) (by decide +kernel)
theorem k_11 : (Cond.instantiable "MultiValueFile" (8 : Nat)) ∈ tb := tb_mem (List.mem_of_getElem? (i := 11) (by decide +kernel)) (by decide +kernel)
theorem k_12 : (Cond.methodLink "MultiValueFileLaw" (176 : Nat) ({ cls := "MultiValueFile", name := "<init>", desc := "()V" } : MethodName)) ∈ tb := tb_mem (List.mem_of_getElem? (i := 12) (by decide +kernel)) (by decide +kernel)
theorem k_13 : (Cond.instanceMethod ({ cls := "MultiValueFile", name := "<init>", desc := "()V" } : MethodName)) ∈ tb := tb_mem (List.mem_of_getElem? (i := 13) (by decide +kernel)) (by decide +kernel)
theorem k_14 : (Cond.code ({ cls := "MultiValueFile", name := "<init>", desc := "()V" } : MethodName) prog_1_method_1_code (2 : Nat) (Option.none : Option ClassFile.FieldType)) ∈ tb := tb_mem (List.mem_of_getElem? (i := 14) (by decide +kernel)) (by decide +kernel)
theorem arrV_cong {cI : ClassId} {N : Nat} {f g : Nat → Value} (h : ∀ j, j < N → f j = g j) : arrV cI N f = arrV cI N g := by
  unfold arrV
  congr 1
  congr 1
  funext j
  exact h j.val j.isLt
theorem at_row {G : jG} {H : Heap} {q N : Nat} {cA : ClassId} {f g : Nat → Option Nat} (h : va_at G.1 vwCl (q, .inl (cA, N, .inr (.inr (.inr (.inr f))))) H) (e : ∀ j, j < N → f j = g j) : va_at G.1 vwCl (q, .inl (cA, N, .inr (.inr (.inr (.inr g))))) H := by
  have h1 : H[q]? = some (vp_cell cA (N, .inr (.inr (.inr (.inr f))))) := h
  show H[q]? = some (vp_cell cA (N, .inr (.inr (.inr (.inr g)))))
  rw [h1, vp_cell_q, vp_cell_q, arrV_cong (fun j hj => by rw [e j hj])]
theorem row_mM {j : Nat} (h : j = 2 ∨ j = 50 ∨ j = 97 ∨ j = 144 ∨ j = 191) {t : Nat} (ht : t < 10) : mM (j : Int) (t : Int) = (j : Int) + 1 + 4 * t := by
  rcases h with rfl | h
  · rw [show (((2 : Nat)) : Int) = 1 + 1 by omega, mM_1 1 t (by decide) (by decide)]
    unfold mS
    rw [if_pos rfl, if_pos (by omega)]
    omega
  · obtain ⟨i, i0, i1, e⟩ : ∃ i : Int, 0 ≤ i ∧ i < 4 ∧ (j : Int) = 49 + 47 * i + 1 := by
      rcases h with rfl | rfl | rfl | rfl
      · exact ⟨0, by decide, by decide, by decide⟩
      · exact ⟨1, by decide, by decide, by decide⟩
      · exact ⟨2, by decide, by decide, by decide⟩
      · exact ⟨3, by decide, by decide, by decide⟩
    rw [e, mM_row i0 i1 (by omega) (by omega)]
    omega
theorem born_gW {G : jG} {H : Heap} {u : Nat → va_E} (hP : va_P G.1 vwCl (gV G.2.2 252 u) H) (h0 : u 0 = jE G mM (0 : Int)) (hg : ∀ j, 1 ≤ j → j < 252 → j ≠ 48 → gE G j (u j)) (h48 : u 48 = .inl (G.2.1.2.2.2.2, 4, .inr (.inr (.inr (.inr (va_up (va_up (va_up (va_up (fun _ => none) (jI 0).toNatClampNeg (some (G.2.2 + 49))) (jI 1).toNatClampNeg (some (G.2.2 + 96))) (jI 2).toNatClampNeg (some (G.2.2 + 143))) (jI 3).toNatClampNeg (some (G.2.2 + 190)))))))) : va_P G.1 vwCl (gW G mM) H := by
  intro k q hq
  by_cases hk : k < 252
  · have e : (gW G mM)[k]? = some (jD G (k : Int), jE G mM (k : Int)) := by simp [gW, hk]
    rw [e] at hq
    have hq := Option.some.inj hq
    subst hq
    have hw := hP k _ (gV_get hk)
    have ed : jD G (k : Int) = G.2.2 + k := jD_n rfl
    rw [ed]
    rcases (by omega : k = 0 ∨ k = 48 ∨ (1 ≤ k ∧ k < 252 ∧ k ≠ 48)) with z | z | z
    · subst z
      rw [h0] at hw
      exact hw
    · subst z
      rw [h48] at hw
      rw [jEs (n := 4) (by decide) (by decide)]
      refine at_row hw (fun j hj => ?_)
      rcases (by omega : j = 0 ∨ j = 1 ∨ j = 2 ∨ j = 3) with rfl | rfl | rfl | rfl
      · rw [jD_n (n := 49) (by decide)]; rfl
      · rw [jD_n (n := 96) (by decide)]; rfl
      · rw [jD_n (n := 143) (by decide)]; rfl
      · rw [jD_n (n := 190) (by decide)]; rfl
    · have g := hg k z.1 z.2.1 z.2.2
      unfold gE at g
      by_cases y : k = 2 ∨ k = 50 ∨ k = 97 ∨ k = 144 ∨ k = 191
      · rw [if_pos y] at g
        rw [g] at hw
        have kk : jK (k : Int) = 40010 := by rcases y with rfl | rfl | rfl | rfl | rfl <;> decide
        rw [jEr (n := 10) (by rw [kk]; decide) (by rw [kk]; decide)]
        refine at_row hw (fun j hj => ?_)
        rw [if_pos hj, row_mM y hj, jD_n (n := k + 1 + 4 * j) (by omega)]
      · rw [if_neg y] at g
        rw [g] at hw
        exact hw
  · rw [List.getElem?_eq_none (by simp [gW]; omega)] at hq
    cases hq
theorem tb_hts {b : Nat} {s : State} (hts : ∀ w ∈ lw_tbl, w.before #[Value.ref b] s = true) : ∀ w ∈ tb, w.before #[Value.ref b] s = true := fun w hw => hts w (List.mem_filter.mp hw).1
theorem n_291 : (Cond.methodLinkNest RX1 42 yX6_isBelow RX6) ∈ lw_tbl := List.mem_append_right _ (List.mem_of_getElem? (i := 291) (by decide +kernel))
theorem n_568 : (Cond.methodLinkNest RX3 27 yX6_isBelow RX6) ∈ lw_tbl := List.mem_append_right _ (List.mem_of_getElem? (i := 568) (by decide +kernel))
theorem n_381 : (Cond.methodLinkNest RX2 19 yX6_isBelow RX6) ∈ lw_tbl := List.mem_append_right _ (List.mem_of_getElem? (i := 381) (by decide +kernel))
theorem n_25 : (Cond.arrayOver (.object RX1)) ∈ lw_tbl := List.mem_append_right _ (List.mem_of_getElem? (i := 25) (by decide +kernel))
theorem n_86 : (Cond.arrayOver (.object RX4)) ∈ lw_tbl := List.mem_append_right _ (List.mem_of_getElem? (i := 86) (by decide +kernel))
theorem arr_of {args : Array Value} {s : State} {ty : FieldType} (h : (Cond.arrayClass ty).before args s = true) (hty : ∀ C, ty ≠ .object C) : ∃ cA : ClassId, ArrOfT s cA ty ∧ va_RA s cA ty := by
  obtain ⟨cA, kA, comp, h1, h2, h3⟩ := Cond.arrayClass_spec h
  refine ⟨cA, fun n z => ⟨fun k h => (by cases h), kA, h2, comp, h3⟩, ?_⟩
  cases ty with
  | object C => exact absurd rfl (hty C)
  | _ => exact h1
theorem arq_of {args : Array Value} {s : State} {C : String} (h : (Cond.arrayOver (.object C)).before args s = true) : ∃ cA : ClassId, ArrOfT s cA (.object C) ∧ va_RA s cA (.object C) := by
  obtain ⟨comp, cA, kA, h1, h2, h3, h4, h5⟩ := Cond.arrayOver_spec h
  exact ⟨cA, fun n z => ⟨fun k h => (by cases h), kA, h3, comp, h4⟩, kA, comp, h3, h4, h1, h5⟩
theorem KK_start {b : Nat} {s : State} (hts : ∀ w ∈ lw_tbl, w.before #[Value.ref b] s = true) (base : Nat) : ∃ G : jG, G.2.2 = base ∧ KK G s ∧ AO s := by
  have htb := tb_hts hts
  obtain ⟨c0, d0, g0⟩ := u_known (n := 5) htb inT0 (htb _ k_145)
  obtain ⟨c1, d1, g1⟩ := u_known (n := 5) htb inT1 (htb _ k_26)
  obtain ⟨c2, d2, g2⟩ := u_known (n := 2) htb inT2 (htb _ k_129)
  obtain ⟨c3, d3, g3⟩ := u_known (n := 2) htb inT3 (htb _ k_88)
  obtain ⟨c4, d4, g4⟩ := u_known (n := 7) htb inT4 (htb _ k_19)
  obtain ⟨c5, d5, g5⟩ := u_known (n := 5) htb inT5 (htb _ k_104)
  obtain ⟨c6, d6, g6⟩ := u_known (n := 8) htb inT6 (htb _ k_11)
  obtain ⟨ai, ai1, ai2⟩ := arr_of (htb _ k_52) (by intro C h; cases h)
  obtain ⟨az, az1, az2⟩ := arr_of (htb _ k_85) (by intro C h; cases h)
  obtain ⟨ac, ac1, ac2⟩ := arr_of (htb _ k_102) (by intro C h; cases h)
  obtain ⟨ar, ar1, ar2⟩ := arq_of (hts _ n_25)
  obtain ⟨as, as1, as2⟩ := arq_of (hts _ n_86)
  refine ⟨((fun c => match c with | 0 => c0 | 1 => c1 | 2 => c2 | 3 => c3 | 4 => c4 | 5 => c5 | _ => c6, fun c => match c with | 0 => d0 | 1 => d1 | 2 => d2 | 3 => d3 | 4 => d4 | 5 => d5 | _ => d6), (ai, az, ac, ar, as), base), rfl, ⟨⟨fun c q hq => ?_, fun k q hq => ?_⟩, va_Nw.of rfl (hts _ n_291), va_Nw.of rfl (hts _ n_568), va_Nw.of rfl (hts _ n_381)⟩, va_AO.of (hts _ n_25), va_AO.of (hts _ n_86)⟩
  · have hc : c < 7 := (List.getElem?_eq_some_iff.mp hq).1
    rcases (by omega : c = 0 ∨ c = 1 ∨ c = 2 ∨ c = 3 ∨ c = 4 ∨ c = 5 ∨ c = 6) with rfl | rfl | rfl | rfl | rfl | rfl | rfl
    · cases hq; exact g0
    · cases hq; exact g1
    · cases hq; exact g2
    · cases hq; exact g3
    · cases hq; exact g4
    · cases hq; exact g5
    · cases hq; exact g6
  · have hk : k < 5 := (List.getElem?_eq_some_iff.mp hq).1
    rcases (by omega : k = 0 ∨ k = 1 ∨ k = 2 ∨ k = 3 ∨ k = 4) with rfl | rfl | rfl | rfl | rfl
    · cases hq; exact ⟨ai1, ai2⟩
    · cases hq; exact ⟨az1, az2⟩
    · cases hq; exact ⟨ac1, ac2⟩
    · cases hq; exact ⟨ar1, ar2⟩
    · cases hq; exact ⟨as1, as2⟩
set_option maxHeartbeats 4000000 in
set_option maxRecDepth 100000 in
theorem whole_start {p : Program} {e : Env} {s : State} {m : MethodId} {below : List Frame} {meth : Method} {c : Code} (l : Launch) (hflags : l.flags = flags0) {b L : Nat} {xs : Nat → Int32} (hL : L ≤ 260) (C0 : lw_At p s m meth c b L xs) : W p l e room_1 s m #[Value.ref b] below meth c s.heap [] 0 0 (lw_Z below #[Value.ref b] s) (entryFrame m ([Value.ref b] : List Value).toArray 9) := by
  obtain ⟨hx, hb, hr, hml, hown, hts, hX, hbl, hlocks, hgv⟩ := id C0
  have htb := tb_hts hts
  obtain ⟨G, hG, hK, hA0⟩ := KK_start hts s.heap.size
  have Cd : ∀ d : Drawn, Cx G p (s.setDrawn d) #[Value.ref b] m c cL_law 9 RL := fun d => ⟨hx, hb, hml, hown, dr_words htb d, KK.same (u := s) rfl hK⟩
  have hd0 := Drawn.sameBut.refl s.drawn lw_cs
  refine W.base ?_
  have C := Cd s.drawn
  have hA : AO (s.setDrawn s.drawn) := AO.moved (u := s) (U := s.setDrawn s.drawn) (Vm.Alike.refl s.vm) hA0
  have hz : (s.setDrawn s.drawn).heap.size = G.2.2 := hG.symm
  have hz1 : s.heap.size = G.2.2 := hG.symm
  have hl := lv_entry ([.ref b]) (n := 9) (Nat.le_of_ble_eq_true rfl)
  rw [lg_entry_eq]
  generalize (lg_sl ([.ref b]) ++ List.replicate (9 - (lg_sl ([.ref b])).length) Slot.unset).toArray = ls at hl ⊢
  have hl : lv_has ls 9 [(0, .ref b)] := hl
  have B : Kq G 0 (fun _ => .inr (0, [])) s.heap s.heap [] := ⟨fun k q hq => by simp [gV] at hq, va_S.rf⟩
  refine kr_new C B (n1 := 1) (ci := 6) (fs := [.null, .null, .int 0, .null, .null, .null, .null, .null]) (by omega) (by omega) (by omega) k_10 k_11 q_1 inT6 tyX6 tyX6_ok rfl (fun j hj => by rcases (show j = 0 ∨ j = 1 ∨ j = 2 ∨ j = 3 ∨ j = 4 ∨ j = 5 ∨ j = 6 ∨ j = 7 by omega) with rfl | rfl | rfl | rfl | rfl | rfl | rfl | rfl <;> rfl) (Nat.le_of_ble_eq_true rfl) (Nat.le_of_ble_eq_true rfl) dL_law_0 (fun H B => ?_)
  refine lv_dup C.1 C.2.1 dL_law_3 rfl ?_
  refine kr_call C hA hl.1 B (by omega) (by omega) (b_X6 eU_eq) k_12 rfl k_13 k_14 q_1 ⟨by decide, by decide, by decide +kernel⟩ rfl ⟨rfl, rfl⟩ ⟨(Nat.le_of_ble_eq_true rfl), (Nat.le_of_ble_eq_true rfl)⟩ ⟨(Nat.le_of_ble_eq_true rfl), (Nat.le_of_ble_eq_true rfl)⟩ rfl (Nat.le_of_ble_eq_true rfl) dL_law_4 (fun u H locs hu B => ?_)
  obtain ⟨x0, xg, x48⟩ := hu
  refine lv_astore_n (lv' := [(1, .ref (G.2.2 + 0)), (0, .ref b)]) C.1 C.2.1 dL_law_7 rfl hl (by decide) rfl (fun ls hl => ?_)
  have hP := born_gW B.1 x0 xg x48
  refine va_forget (fun q hq => ?_) ?_
  · have := B.2.2.2 q hq
    unfold gB at this
    omega
  have hXs : va_X b L xs (s.setDrawn s.drawn) s.heap := va_X.moved (u := s) (U := s.setDrawn s.drawn) (Vm.Alike.refl s.vm) hX
  refine law_walk (Ln := L) (xs := xs) (X := fun i => (xs i.toNat).toInt) (L := (L : Int)) (N := 6000) (M := mM) ⟨hXs, hbl, fun q => by have := q.1; omega, rfl, by omega, fun i => jR_of _, fun j => by dsimp only; rw [Int.toNat_natCast]⟩ (by omega) C hr hlocks ⟨hP, ⟨B.2.1, fun q q1 q2 => B.2.2.1 q q1 (fun q3 => by unfold gB at q3; omega), fun q hq => by cases hq⟩, mM_ok⟩ ?_ (law_ok mM_XR rfl) hd0
  rw [jD_n (G := G) (c := 0) (n := 0) rfl]
  exact hl
