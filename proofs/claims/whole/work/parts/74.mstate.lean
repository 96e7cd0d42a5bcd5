/-! THE REFERENCE'S STATE: one record changed, made, dropped; what an action leaves -/
def mfr (M M' : jM) : Prop := (∀ c : Int, c < 252 → M' c = M c) ∧ (∀ c : Int, 254 ≤ c → c ≤ 257 → M' c = M c) ∧ M' 252 3 = M 252 3 ∧ M' 252 5 = M 252 5 ∧ M' 252 7 = M 252 7
theorem mfr.rfl {M : jM} : mfr M M := ⟨fun _ _ => Eq.refl _, fun _ _ _ => Eq.refl _, Eq.refl _, Eq.refl _, Eq.refl _⟩
theorem mfr.tr {M M1 M2 : jM} (h : mfr M M1) (g : mfr M1 M2) : mfr M M2 := ⟨fun c a => by rw [g.1 c a, h.1 c a], fun c a b => by rw [g.2.1 c a b, h.2.1 c a b], by rw [g.2.2.1, h.2.2.1], by rw [g.2.2.2.1, h.2.2.2.1], by rw [g.2.2.2.2, h.2.2.2.2]⟩
theorem mfr.of {M M' : jM} (h : ∀ c : Int, c ≠ 253 → M' c = M c) : mfr M M' := ⟨fun c hc => h c (by omega), fun c _ _ => h c (by omega), by rw [h 252 (by omega)], by rw [h 252 (by omega)], by rw [h 252 (by omega)]⟩
theorem MR.frame {M M' : jM} {a : aA} {n : aS} (h : MR M a) (e : mfr M M') (hn : MS M' 253 0 n) : MR M' (n, aH a, aT a, aP a) := h.set e.2.2.1 e.2.2.2.1 e.2.2.2.2 (e.2.1 255 (by omega) (by omega)) (e.2.1 256 (by omega) (by omega)) (e.2.1 257 (by omega) (by omega)) hn
theorem msBegin_k {N : Nat} {M : jM} {a : aA} {k : jM → Prop} (hN : 5000 ≤ N) (h : MR M a) (H : ∀ M1, MR M1 a → MS M1 254 0 (aNow a) → (∀ c : Int, c ≠ 254 → M1 c = M c) → k M1) : w_X7_begins N M 252 k := by
  have c1 : ∀ c : Int, c ≠ 254 → jC M 253 0 254 0 1115 c = M c := fun c hc => jC_row hc
  refine begins_k hN (H _ ?_ ?_ c1)
  · refine MR.set (n0 := aNow a) h (by rw [c1 252 (by omega)]) (by rw [c1 252 (by omega)]) (by rw [c1 252 (by omega)]) (c1 _ (by omega)) (c1 _ (by omega)) (c1 _ (by omega)) (h.now.move (fun j _ _ => by rw [c1 253 (by omega)]))
  · refine h.now.move (fun j j0 j1 => ?_)
    unfold jC
    rw [if_pos (by omega)]
    congr 1
    omega
theorem msKeep_k {N : Nat} {M1 M2 : jM} {a : aA} {n : aS} {told : Int} {k : Int → jM → Prop} (hN : 5000 ≤ N) (h : MR M1 a) (hB : MS M1 254 0 (aNow a)) (e : mfr M1 M2) (hn : MS M2 253 0 n) (ht : -1000001 < told) (H : ∀ M', frM M1 M' → MR M' (aDo a n) → k told M') : w_X7_keeps N M2 252 told k := by
  refine keeps_k hN (h.frame e hn) (b := aNow a) (hB.move (fun j _ _ => by rw [e.2.1 254 (by omega) (by omega)])) ht (fun M' f hM => H M' (fun c hc => by rw [f c hc, e.1 c hc]) hM)
theorem MO.setRec {M M' : jM} {s s' : aS} {O : List Int} {i : Nat} {id : Int} (h : MO M 253 0 s O) (hi : O[i]? = some id) (e : ∀ j : Int, 0 ≤ j → j < 1115 → (j < 55 + 106 * (i : Int) ∨ 55 + 106 * (i : Int) + 106 ≤ j) → M' 253 j = M 253 j) (hr : RM M' 253 (55 + 106 * (i : Int)) id (sK s' id) (sF s' id)) (e1 : sI s' = sI s) (e2 : ∀ j : Int, j ≠ id → sK s' j = sK s j) (e3 : ∀ j : Int, j ≠ id → sF s' j = sF s j) (e4 : sA s' = sA s) (e5 : sC s' = sC s) (e6 : sL s' = sL s) : MO M' 253 0 s' O := by
  have hl := h.len
  have hn := h.nodup
  have hil : i < O.length := (List.getElem?_eq_some_iff.mp hi).1
  obtain ⟨h1, h2, h3, h4, h5, h6, h7⟩ := h
  refine ⟨?_, by rw [e 0 (by omega) (by omega) (by omega), e1]; exact h2, by rw [e1]; exact h3, fun j id' hj => ?_, fun f hf => by rw [e _ (by omega) (by omega) (by omega), e4]; exact h5 f hf, fun q hq => by rw [e _ (by omega) (by omega) (by omega), e _ (by omega) (by omega) (by omega), e _ (by omega) (by omega) (by omega), e5]; exact h6 q hq, fun l w hl w0 w1 => by rw [e _ (by omega) (by omega) (by omega), e6]; exact h7 l w hl w0 w1⟩
  · unfold sOK at h1 ⊢
    rw [e1, e4, e5]
    exact h1
  · have hjl : j < O.length := (List.getElem?_eq_some_iff.mp hj).1
    by_cases z : j = i
    · subst z
      rw [hi] at hj
      have : id = id' := Option.some.inj hj
      subst this
      rw [show (0 : Int) + 55 + 106 * (j : Int) = 55 + 106 * (j : Int) by omega]
      exact hr
    · have hne : id' ≠ id := by
        intro q
        obtain ⟨g1, g2⟩ := List.getElem?_eq_some_iff.mp hi
        obtain ⟨g3, g4⟩ := List.getElem?_eq_some_iff.mp hj
        rcases Nat.lt_or_ge i j with y | y
        · exact List.pairwise_iff_getElem.mp hn i j g1 g3 y (by rw [g2, g4, q])
        · exact List.pairwise_iff_getElem.mp hn j i g3 g1 (by omega) (by rw [g2, g4, q])
      rw [e2 id' hne, e3 id' hne]
      exact (h4 j id' hj).move (fun t t0 t1 => e _ (by omega) (by omega) (by omega))
theorem MO.rec {M : jM} {s : aS} {O : List Int} {i : Nat} {id : Int} (h : MO M 253 0 s O) (hi : O[i]? = some id) : sRec (i : Int) ∧ RM M 253 (55 + 106 * (i : Int)) id (sK s id) (sF s id) ∧ id ∈ sI s := by
  have hl := h.len
  have hil : i < O.length := (List.getElem?_eq_some_iff.mp hi).1
  have q := h.2.2.2.1 i id hi
  rw [show (0 : Int) + 55 + 106 * (i : Int) = 55 + 106 * (i : Int) by omega] at q
  exact ⟨by omega, q, h.2.2.1.mem_iff.mp (List.mem_of_getElem? hi)⟩
theorem lockedBy_lp {M : jM} {s : aS} {O : List Int} {u : Int} {kx : Int → Prop} (h : MO M 253 0 s O) (hu : sUsr u) (H : kx (nLock s u)) : ∀ (d n p : Nat), d < n → p + d = O.length → lp_X7_lockedBy_4 252 u M kx n (((O.take p).countP (fun j => decide (sK s j = u)) : Nat) : Int) p := by
  have hl := h.len
  have hm : M 253 0 = (O.length : Nat) := by rw [h.2.1, hl.1]
  intro d
  induction d with
  | zero =>
    intro n p hn hp
    obtain ⟨n, rfl⟩ : ∃ m, n = m + 1 := ⟨n - 1, by omega⟩
    rw [lp_X7_lockedBy_4]
    simp only [Int.reduceAdd, hm]
    rw [if_neg (by omega), List.take_of_length_le (by omega), h.2.2.1.countP_eq]
    exact ⟨by omega, H⟩
  | succ d ih =>
    intro n p hn hp
    obtain ⟨n, rfl⟩ : ∃ m, n = m + 1 := ⟨n - 1, by omega⟩
    obtain ⟨y, hy⟩ : ∃ y, O[p]? = some y := ⟨_, List.getElem?_eq_getElem (by omega)⟩
    have hr := h.rec hy
    have e := take_countP (P := fun j => decide (sK s j = u)) hy
    have hk := hr.2.1.2.2.1
    have hle : (O.take p).countP (fun j => decide (sK s j = u)) ≤ p := Nat.le_trans List.countP_le_length (by rw [List.length_take]; omega)
    have hnext := ih n (p + 1) (by omega) (by omega)
    rw [lp_X7_lockedBy_4]
    simp only [Int.reduceAdd, hm]
    rw [if_pos (by omega), of_eq hr.1 (by omega), hr.2.1.2.1, jW_id (a := u + 1) (by omega)]
    refine ⟨by omega, ?_⟩
    simp (disch := omega) only [jL, jW_id]
    by_cases z : sK s y = u
    · rw [e, if_pos (by simp [z])] at hnext
      rw [if_pos (by rw [if_neg (by omega)]; omega)]
      exact hnext
    · rw [e, if_neg (by simp [z])] at hnext
      rw [if_neg (by split <;> omega), Int.add_zero]
      exact hnext
theorem lockedBy_k {N : Nat} {M : jM} {s : aS} {O : List Int} {u : Int} {k : Int → Prop} (hN : 5000 ≤ N) (h : MO M 253 0 s O) (hu : sUsr u) (H : k (nLock s u)) : w_X7_lockedBy N M 252 u k := by
  have hl := h.len
  exact lockedBy_lp h hu H O.length N 0 (by omega) (by omega)
theorem MO.same {M M' : jM} {s : aS} {O : List Int} (h : MO M 253 0 s O) (e : M' 253 = M 253) : MO M' 253 0 s O := h.move (fun j _ _ => by rw [e])
theorem MS.same {M M' : jM} {s : aS} (h : MS M 253 0 s) (e : M' 253 = M 253) : MS M' 253 0 s := h.move (fun j _ _ => by rw [e])
theorem jU_in {M : jM} {c i v j : Int} (h : j ≠ i) : jU M c i v c j = M c j := by
  unfold jU
  rw [if_neg (fun z => h z.2)]
theorem nLock_le (s : aS) (u : Int) : 0 ≤ nLock s u := by
  unfold nLock
  omega
theorem setK_MO {M : jM} {s : aS} {O : List Int} {i : Nat} {id u : Int} (h : MO M 253 0 s O) (hi : O[i]? = some id) (hu : u = -1000007 ∨ sUsr u) : MO (jU M 253 (55 + 106 * (i : Int) + 1) (if u = -1000007 then 0 else u + 1)) 253 0 (setK s id u) O := by
  have hr := h.rec hi
  refine h.setRec hi (fun j j0 j1 hj => jU_in (by omega)) ?_ rfl (fun j hj => uI_ne hj) (fun _ _ => rfl) rfl rfl rfl
  have eu : sK (setK s id u) id = u := uI_self _ _ _
  rw [eu]
  refine ⟨by rw [jU_in (by omega)]; exact hr.2.1.1, by simp [jU], hu, fun f f0 f1 => ?_⟩
  · have q := hr.2.1.2.2.2 f f0 f1
    have l := q.len
    refine q.congr (jU_in (by omega)) (fun v v0 v1 => jU_in (by omega)) (fun v k v0 v1 k0 k1 => ?_)
    have := q.val v0 v1
    exact jU_in (by omega)
theorem errBad_k {N : Nat} {M : jM} {s : aS} {u id : Int} {k : Int → Prop} (hN : 5000 ≤ N) (h : MS M 253 0 s) (hb : ¬ sUsr u ∨ id ∉ sI s) (H : k (-1000001)) : w_X7_errorOf N M 252 u id k := errorOf_k (by omega) h (by rw [if_pos hb]; exact H)
theorem errOk_k {N : Nat} {M : jM} {s : aS} {u id : Int} {k : Int → Prop} (hN : 5000 ≤ N) (h : MS M 253 0 s) (hu : sUsr u) (hi : id ∈ sI s) (H : k 0) : w_X7_errorOf N M 252 u id k := errorOf_k (by omega) h (by rw [if_neg (fun z => z.elim (fun z => z hu) (fun z => z hi))]; exact H)
theorem ms_lock {N : Nat} {M : jM} {a : aA} {u id : Int} {k : Int → jM → Prop} (hN : 5000 ≤ N) (hM : MR M a) (H : ∀ M', frM M M' → MR M' (a_lock a u id).2 → k (a_lock a u id).1 M') : w_X7_lock N M 252 u id k := by
  unfold w_X7_lock
  refine msBegin_k hN hM (fun M1 h1 hB f1 => ?_)
  have hS := h1.now
  obtain ⟨O, hO⟩ := MS_iff.mp hS
  unfold a_lock at H
  have fx : frM M M1 := fun c hc => f1 c (by omega)
  unfold w_X7_goLock
  refine placeOf_k (by omega) hO (fun i hi => ?_) (fun hn => ?_)
  · have hr := hO.rec hi
    by_cases hu : sUsr u
    · refine errOk_k hN hS hu hr.2.2 ?_
      rw [if_neg (by omega), isBarred_eq hr.1 hr.2.1 hu]
      rw [if_neg (fun z => z.elim (fun z => z hu) (fun z => z hr.2.2))] at H
      by_cases h2 : sOpen (aNow a) u id
      · rw [if_neg (not_not_intro h2)] at H
        rw [if_pos h2, if_pos (by omega), lays_eq hr.1 (by omega), jW_id (by omega)]
        have hO2 := setK_MO (u := u) hO hi (Or.inr hu)
        rw [if_neg (by omega)] at hO2
        refine lockedBy_k hN hO2 hu ?_
        have := nLock_le (setK (aNow a) id u) u
        exact msKeep_k hN h1 hB (mfr.of (fun c hc => jU_row hc)) (MS_iff.mpr ⟨O, hO2⟩) (by omega) (fun M' f' hM' => H M' (fun c hc => by rw [f' c hc, fx c hc]) hM')
      · rw [if_pos h2] at H
        rw [if_neg h2, if_neg (by omega)]
        refine errOk_k hN hS hu hr.2.2 ?_
        rw [if_neg (by omega)]
        exact keepsNo_k (by omega) (H M1 fx h1)
    · rw [if_pos (Or.inl hu)] at H
      refine errBad_k hN hS (Or.inl hu) ?_
      rw [if_pos (by omega)]
      refine errBad_k hN hS (Or.inl hu) ?_
      rw [if_pos (by omega)]
      exact keepsNo_k (by omega) (H M1 fx h1)
  · rw [if_pos (Or.inr hn)] at H
    refine errBad_k hN hS (Or.inr hn) ?_
    rw [if_pos (by omega)]
    refine errBad_k hN hS (Or.inr hn) ?_
    rw [if_pos (by omega)]
    exact keepsNo_k (by omega) (H M1 fx h1)
theorem ms_unlock {N : Nat} {M : jM} {a : aA} {u id : Int} {k : Int → jM → Prop} (hN : 5000 ≤ N) (hM : MR M a) (H : ∀ M', frM M M' → MR M' (a_unlock a u id).2 → k (a_unlock a u id).1 M') : w_X7_unlock N M 252 u id k := by
  unfold w_X7_unlock
  refine msBegin_k hN hM (fun M1 h1 hB f1 => ?_)
  have hS := h1.now
  obtain ⟨O, hO⟩ := MS_iff.mp hS
  unfold a_unlock at H
  have fx : frM M M1 := fun c hc => f1 c (by omega)
  unfold w_X7_goUnlock
  refine placeOf_k (by omega) hO (fun i hi => ?_) (fun hn => ?_)
  · have hr := hO.rec hi
    by_cases hu : sUsr u
    · refine errOk_k hN hS hu hr.2.2 ?_
      rw [if_neg (by omega), isBarred_eq hr.1 hr.2.1 hu]
      rw [if_neg (fun z => z.elim (fun z => z hu) (fun z => z hr.2.2))] at H
      by_cases h2 : sOpen (aNow a) u id
      · rw [if_neg (not_not_intro h2)] at H
        rw [if_pos h2, if_pos (by omega), of_eq hr.1 (by omega), hr.2.1.2.1]
        have hk := hr.2.1.2.2.1
        by_cases h3 : sK (aNow a) id = -1000007
        · rw [if_pos h3] at H
          rw [if_pos h3, if_pos (by omega)]
          exact keepsNo_k (by omega) (H M1 fx h1)
        · rw [if_neg h3] at H
          rw [if_neg h3, if_neg (by omega), lays_eq hr.1 (by omega)]
          have hO2 := setK_MO (u := -1000007) hO hi (Or.inl rfl)
          rw [if_pos rfl] at hO2
          refine lockedBy_k hN hO2 hu ?_
          have := nLock_le (setK (aNow a) id (-1000007)) u
          exact msKeep_k hN h1 hB (mfr.of (fun c hc => jU_row hc)) (MS_iff.mpr ⟨O, hO2⟩) (by omega) (fun M' f' hM' => H M' (fun c hc => by rw [f' c hc, fx c hc]) hM')
      · rw [if_pos h2] at H
        rw [if_neg h2, if_neg (by omega)]
        refine errOk_k hN hS hu hr.2.2 ?_
        rw [if_neg (by omega)]
        exact keepsNo_k (by omega) (H M1 fx h1)
    · rw [if_pos (Or.inl hu)] at H
      refine errBad_k hN hS (Or.inl hu) ?_
      rw [if_pos (by omega)]
      refine errBad_k hN hS (Or.inl hu) ?_
      rw [if_pos (by omega)]
      exact keepsNo_k (by omega) (H M1 fx h1)
  · rw [if_pos (Or.inr hn)] at H
    refine errBad_k hN hS (Or.inr hn) ?_
    rw [if_pos (by omega)]
    refine errBad_k hN hS (Or.inr hn) ?_
    rw [if_pos (by omega)]
    exact keepsNo_k (by omega) (H M1 fx h1)
