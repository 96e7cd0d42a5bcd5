/-! THE CLASS'S CALLS: each has the abstract answer -/
theorem fr0 {M : jM} : frX M M := fun _ _ => rfl
/-- a record of now, found -/
theorem XR.rec {M : jM} {a : aA} (h : XR M a) {i : Nat} {id : Int} (hi : (sI (aNow a))[i]? = some id) : ∃ r : Int, M 2 i = r ∧ 3 ≤ r ∧ r ≤ 39 ∧ i < 10 ∧ RX M r id (sK (aNow a) id) (sF (aNow a) id) := by
  have hl := h.now.lt hi
  have hin := h.now.in (i := (i : Int)) (by omega) (by omega)
  simp only [Int.reduceAdd] at hin
  exact ⟨M 2 i, rfl, by omega, by omega, hl.2, h.now.rec hi⟩
theorem XR.find_k {N : Nat} {M : jM} {a : aA} {id : Int} {k : Int → Prop} (hN : 100 ≤ N) (hX : XR M a) (h1 : ∀ (i : Nat) (r : Int), (sI (aNow a))[i]? = some id → M 2 i = r → 3 ≤ r → r ≤ 39 → RX M r id (sK (aNow a) id) (sF (aNow a) id) → k r) (h2 : id ∉ sI (aNow a) → k (-1)) : w_X4_find N M 1 id k := by
  refine fnd_k hN hX.now (fun i hi => ?_) h2
  obtain ⟨r, r0, r1, r2, r3, hr⟩ := hX.rec hi
  have e : M (1 + 1) i = r := r0
  rw [e]
  exact h1 i r hi r0 r1 r2 hr
theorem XR.act {M M2 : jM} {n n' : aS} {hs : List aS} {T P : List Int} {i : Nat} {id r : Int} (hX : XR M (n, hs, T, P)) (hi : (sI n)[i]? = some id) (hr0 : M 2 i = r) (hrr : 3 ≤ r ∧ r ≤ 39) (e : ∀ c : Int, (c < r ∨ r + 4 ≤ c) → M2 c = M c)
    (hr : RX M2 r id (sK n' id) (sF n' id)) (e1 : sI n' = sI n) (e2 : ∀ j : Int, j ≠ id → sK n' j = sK n j) (e3 : ∀ j : Int, j ≠ id → sF n' j = sF n j) (e4 : sA n' = sA n) (e5 : sC n' = sC n) (e6 : sL n' = sL n) : XR M2 (n', hs, T, P) := by
  refine hX.setNow (fun c hc => e c (by omega)) (hX.now.setRec hi (fun c h0 h1 h2 => e c ?_) ?_ e1 e2 e3 e4 e5 e6)
  · simp only [Int.reduceAdd] at h2
    rw [hr0] at h2
    exact h2
  · simp only [Int.reduceAdd]
    rw [hr0]
    exact hr
theorem xs_create {N : Nat} {M : jM} {a : aA} {id : Int} {k : Int → jM → Prop} (hN : 200 ≤ N) (hX : XR M a) (H : ∀ M', frX M M' → XR M' (a_create a id).2 → k (a_create a id).1 M') : w_X6_create N M 0 id k := by
  unfold w_X6_create
  simp only [Int.reduceAdd, isBelow_eq, b01, ite_not]
  by_cases h1 : 0 ≤ id ∧ id < 100
  · rw [if_pos h1]
    have hc := hX.now.cnt
    refine hX.find_k (by omega) (fun i r hi r0 r1 r2 hr => ?_) (fun hn => ?_)
    · rw [if_neg (by omega)]
      have e : a_create a id = (-1000005, a) := by simp [a_create, h1, List.mem_of_getElem? hi]
      rw [e] at H
      exact H M fr0 hX
    · rw [if_pos (by omega), hc.1]
      by_cases h2 : 10 ≤ (sI (aNow a)).length
      · rw [if_neg (by omega)]
        have e : a_create a id = (-1000004, a) := by simp [a_create, h1, hn, h2]
        rw [e] at H
        exact H M fr0 hX
      · rw [if_pos (by omega)]
        have e : a_create a id = (((sI (aNow a)).length : Int) + 1, aDo a (sAdd (aNow a) id)) := by simp [a_create, h1, hn, h2]
        rw [e] at H
        refine remember_k (by omega) hX (fun M1 f1 hX1 => addRecord_k (by omega) hX1.now h1 hn (by show (sI (aNow a)).length < 10; omega) (fun M2 f2 hS2 => ?_))
        have hl : (sI (sAdd (aNow a) id)).length = (sI (aNow a)).length + 1 := by
          show ((sI (aNow a)).insertIdx _ id).length = _
          rw [List.length_insertIdx, if_pos List.findIdx_le_length]
        have hcc : M2 1 1 = ((sI (aNow a)).length : Int) + 1 := by rw [hS2.cnt.1]; exact (congrArg (fun n : Nat => (n : Int)) hl).trans (by omega)
        rw [hcc]
        exact H M2 (fun c hc => by rw [f2 c (by omega), f1 c (by omega)]) (hX1.setNow (fun c hc => f2 c (by omega)) hS2)
  · rw [if_neg h1]
    have e : a_create a id = (-1000002, a) := by simp only [a_create]; rw [if_pos h1]
    rw [e] at H
    exact H M fr0 hX
theorem xs_delete {N : Nat} {M : jM} {a : aA} {u id : Int} {k : Int → jM → Prop} (hN : 200 ≤ N) (hX : XR M a) (H : ∀ M', frX M M' → XR M' (a_delete a u id).2 → k (a_delete a u id).1 M') : w_X6_delete N M 0 u id k := by
  unfold w_X6_delete
  simp only [Int.reduceAdd, isBelow_eq, b01, ite_not]
  unfold a_delete at H
  refine hX.find_k (by omega) (fun i r hi r0 r1 r2 hr => ?_) (fun hn => ?_)
  · have hm := List.mem_of_getElem? hi
    rw [if_neg (by omega : ¬ r < 0), isOpenTo_eq hr]
    by_cases h1 : sUsr u
    · rw [if_pos h1]
      simp only [b01, ite_not]
      rw [if_neg (fun z => z.elim (fun z => z h1) (fun z => z hm))] at H
      by_cases h2 : sOpen (aNow a) u id
      · rw [if_pos h2]
        rw [if_neg (not_not_intro h2)] at H
        refine remember_k (by omega) hX (fun M1 f1 hX1 => dropRecord_k (by omega) hX1.now hi (fun M2 f2 hS2 => ?_))
        have hl : (sI (sDel (aNow a) id)).length = (sI (aNow a)).length - 1 := by
          show ((sI (aNow a)).erase id).length = _
          rw [List.length_erase_of_mem hm]
        have hp : 0 < (sI (aNow a)).length := List.length_pos_of_mem hm
        have hcc : M2 1 1 = ((sI (aNow a)).length : Int) - 1 := by rw [hS2.cnt.1]; exact (congrArg (fun n : Nat => (n : Int)) hl).trans (by omega)
        rw [hcc]
        exact H M2 (fun c hc => by rw [f2 c (by omega), f1 c (by omega)]) (hX1.setNow (fun c hc => f2 c (by omega)) hS2)
      · rw [if_neg h2]
        rw [if_pos h2] at H
        exact H M fr0 hX
    · rw [if_neg h1]
      rw [if_pos (Or.inl h1)] at H
      exact H M fr0 hX
  · rw [if_pos (Or.inr hn)] at H
    rw [if_pos (by omega : (-1 : Int) < 0), ite_self]
    exact H M fr0 hX
theorem uI_self {α : Type} (g : Int → α) (i : Int) (v : α) : uI g i v i = v := by simp [uI]
theorem uI_ne {α : Type} {g : Int → α} {i j : Int} {v : α} (h : j ≠ i) : uI g i v j = g j := by simp [uI, h]
theorem xs_lock {N : Nat} {M : jM} {a : aA} {u id : Int} {k : Int → jM → Prop} (hN : 200 ≤ N) (hX : XR M a) (H : ∀ M', frX M M' → XR M' (a_lock a u id).2 → k (a_lock a u id).1 M') : w_X6_lock N M 0 u id k := by
  unfold w_X6_lock
  simp only [Int.reduceAdd, isBelow_eq, b01, ite_not]
  unfold a_lock at H
  refine hX.find_k (by omega) (fun i r hi r0 r1 r2 hr => ?_) (fun hn => ?_)
  · have hm := List.mem_of_getElem? hi
    rw [if_neg (by omega : ¬ r < 0), isOpenTo_eq hr]
    by_cases h1 : sUsr u
    · rw [if_pos h1]
      simp only [b01, ite_not]
      rw [if_neg (fun z => z.elim (fun z => z h1) (fun z => z hm))] at H
      by_cases h2 : sOpen (aNow a) u id
      · rw [if_pos h2]
        rw [if_neg (not_not_intro h2)] at H
        refine remember_k (by omega) hX (fun M1 f1 hX1 => ?_)
        simp only [jL]
        have e2 : M1 2 i = r := by rw [f1 2 (by omega)]; exact r0
        have hr1 : RX M1 r id (sK (aNow a) id) (sF (aNow a) id) := hr.congr (f1 _ (by omega)) (f1 _ (by omega)) (f1 _ (by omega)) (f1 _ (by omega))
        have hr2 : RX (jU M1 r 1 u) r id (sK (setK (aNow a) id u) id) (sF (setK (aNow a) id u) id) := by
          refine ⟨by simp [jU]; exact hr1.1, by simp [jU, setK, sK, uI], Or.inr (by show sUsr (uI (sK (aNow a)) id u id); rw [uI_self]; exact h1), hr1.2.2.2.congr (jU_row (by omega)) (jU_row (by omega)) (jU_row (by omega))⟩
        have hX2 : XR (jU M1 r 1 u) (setK (aNow a) id u, hPush (aH a) (aNow a), aT a, aP a) := hX1.act hi e2 ⟨r1, r2⟩ (fun c hc => jU_row (by omega)) hr2 rfl (fun j hj => uI_ne hj) (fun _ _ => rfl) rfl rfl rfl
        exact lockCount_k (by omega) hX2.now (H _ (fun c hc => by rw [jU_row (by omega), f1 c (by omega)]) hX2)
      · rw [if_neg h2]
        rw [if_pos h2] at H
        exact H M fr0 hX
    · rw [if_neg h1]
      rw [if_pos (Or.inl h1)] at H
      exact H M fr0 hX
  · rw [if_pos (Or.inr hn)] at H
    rw [if_pos (by omega : (-1 : Int) < 0), ite_self]
    exact H M fr0 hX
theorem xs_unlock {N : Nat} {M : jM} {a : aA} {u id : Int} {k : Int → jM → Prop} (hN : 200 ≤ N) (hX : XR M a) (H : ∀ M', frX M M' → XR M' (a_unlock a u id).2 → k (a_unlock a u id).1 M') : w_X6_unlock N M 0 u id k := by
  unfold w_X6_unlock
  simp only [Int.reduceAdd, isBelow_eq, b01, ite_not]
  unfold a_unlock at H
  refine hX.find_k (by omega) (fun i r hi r0 r1 r2 hr => ?_) (fun hn => ?_)
  · have hm := List.mem_of_getElem? hi
    rw [if_neg (by omega : ¬ r < 0), isOpenTo_eq hr, hr.2.1]
    by_cases h1 : sUsr u
    · rw [if_pos h1]
      simp only [b01, ite_not]
      rw [if_neg (fun z => z.elim (fun z => z h1) (fun z => z hm))] at H
      by_cases h2 : sOpen (aNow a) u id
      · rw [if_pos h2]
        rw [if_neg (not_not_intro h2)] at H
        by_cases h3 : sK (aNow a) id = -1000007
        · rw [if_pos h3] at H ⊢
          exact H M fr0 hX
        · rw [if_neg h3] at H ⊢
          refine remember_k (by omega) hX (fun M1 f1 hX1 => ?_)
          simp only [jL]
          have e2 : M1 2 i = r := by rw [f1 2 (by omega)]; exact r0
          have hr1 : RX M1 r id (sK (aNow a) id) (sF (aNow a) id) := hr.congr (f1 _ (by omega)) (f1 _ (by omega)) (f1 _ (by omega)) (f1 _ (by omega))
          have hr2 : RX (jU M1 r 1 (-1000007)) r id (sK (setK (aNow a) id (-1000007)) id) (sF (setK (aNow a) id (-1000007)) id) := by
            refine ⟨by simp [jU]; exact hr1.1, by simp [jU, setK, sK, uI], Or.inl (by show uI (sK (aNow a)) id _ id = _; rw [uI_self]), hr1.2.2.2.congr (jU_row (by omega)) (jU_row (by omega)) (jU_row (by omega))⟩
          have hX2 : XR (jU M1 r 1 (-1000007)) (setK (aNow a) id (-1000007), hPush (aH a) (aNow a), aT a, aP a) := hX1.act hi e2 ⟨r1, r2⟩ (fun c hc => jU_row (by omega)) hr2 rfl (fun j hj => uI_ne hj) (fun _ _ => rfl) rfl rfl rfl
          exact lockCount_k (by omega) hX2.now (H _ (fun c hc => by rw [jU_row (by omega), f1 c (by omega)]) hX2)
      · rw [if_neg h2]
        rw [if_pos h2] at H
        exact H M fr0 hX
    · rw [if_neg h1]
      rw [if_pos (Or.inl h1)] at H
      exact H M fr0 hX
  · rw [if_pos (Or.inr hn)] at H
    rw [if_pos (by omega : (-1 : Int) < 0), ite_self]
    exact H M fr0 hX
