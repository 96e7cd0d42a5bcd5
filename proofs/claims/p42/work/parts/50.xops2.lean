theorem XR.act' {M M1 M2 : jM} {a : aA} {i : Nat} {id r : Int} (hX1 : XR M1 (aNow a, hPush (aH a) (aNow a), aT a, aP a)) (hi : (sI (aNow a))[i]? = some id) (r0 : M 2 i = r) (f1 : ∀ c : Int, (1 ≤ c ∧ c < 48) ∨ 237 ≤ c → M1 c = M c) (hrr : 3 ≤ r ∧ r ≤ 39) (hr : RX M r id (sK (aNow a) id) (sF (aNow a) id)) (e : ∀ c : Int, (c < r + 1 ∨ r + 4 ≤ c) → M2 c = M1 c) {f : Int} {L : List (List Int)} (hF : RF M2 r (uI (sF (aNow a) id) f L)) : XR M2 (aDo a (setF (aNow a) id f L)) ∧ frX M M2 := by
  refine ⟨?_, fun c hc => by rw [e c (by omega), f1 c (by omega)]⟩
  have e2 : M1 2 i = r := by rw [f1 2 (by omega)]; exact r0
  refine hX1.act (n' := setF (aNow a) id f L) hi e2 hrr (fun c hc => e c (by omega)) ?_ rfl (fun _ _ => rfl) (fun j hj => uI_ne hj) rfl rfl rfl
  refine ⟨by rw [e r (by omega), f1 r (by omega)]; exact hr.1, by rw [e r (by omega), f1 r (by omega)]; exact hr.2.1, hr.2.2.1, ?_⟩
  show RF M2 r (uI (sF (aNow a)) id _ id)
  rw [uI_self]
  exact hF
theorem xs_insert {N : Nat} {M : jM} {a : aA} {u id f v w x : Int} {k : Int → jM → Prop} (hN : 200 ≤ N) (hX : XR M a) (H : ∀ M', frX M M' → XR M' (a_insert a u id f v w x).2 → k (a_insert a u id f v w x).1 M') : w_X6_insert N M 0 u id f v w x k := by
  unfold w_X6_insert
  simp only [Int.reduceAdd, isBelow_eq, isNumber_eq, b01, ite_not]
  unfold a_insert at H
  refine hX.find_k (by omega) (fun i r hi r0 r1 r2 hr => ?_) (fun hn => ?_)
  · have hm := List.mem_of_getElem? hi
    have hF := hr.2.2.2
    rw [if_neg (by omega : ¬ r < 0), hasRoomPlace_eq hF]
    simp only [isOpenTo_eq hr, b01, ite_not]
    by_cases h1 : sUsr u
    · rw [if_pos h1]
      by_cases h2 : sFld f ∧ sPl (sF (aNow a) id f) v w
      · rw [if_pos h2]
        rw [if_neg (by rintro (z | z | z); exact z h1; exact z hm; exact z h2.1), if_neg (not_not_intro h2.2)] at H
        by_cases h3 : sNum x
        · rw [if_pos h3]
          rw [if_neg (not_not_intro h3)] at H
          by_cases h4 : sOpen (aNow a) u id
          · rw [if_pos h4]
            rw [if_neg (not_not_intro h4)] at H
            have hlen := hF.len h2.1
            by_cases h5 : w = -1
            · rw [if_pos h5] at H ⊢
              unfold w_X6_insertValue
              rw [valueCount_eq hF h2.1]
              have hv : 0 ≤ v ∧ v ≤ fL (sF (aNow a) id f) := by have := h2.2; omega
              by_cases h6 : 5 ≤ fL (sF (aNow a) id f)
              · rw [if_pos h6] at H
                rw [if_neg (by omega)]
                exact H M fr0 hX
              · rw [if_neg h6] at H
                rw [if_pos (by omega)]
                refine remember_k (by omega) hX (fun M1 f1 hX1 => ?_)
                have hF1 : RF M1 r (sF (aNow a) id) := hF.congr (f1 _ (by omega)) (f1 _ (by omega)) (f1 _ (by omega))
                refine addValue_eq (by omega) h2.1 hv.1 (hF1.len h2.1).1 hv.2 (by omega) ?_
                have hF2 := insC_RF hF1 h2.1 hv.1 hv.2 (by omega) h3
                have q := hX1.act' hi r0 f1 ⟨r1, r2⟩ hr (M2 := insC M1 r f v (fL (sF (aNow a) id f)) x) (fun c hc => insC_row (by omega) (by omega) (by omega)) hF2
                rw [valueCount_eq hF2 h2.1, uI_self]
                have e : fL (fInsV (sF (aNow a) id f) v x) = fL (sF (aNow a) id f) + 1 := by
                  unfold fL fInsV at *
                  rw [List.length_insertIdx]
                  grind
                rw [e]
                exact H _ q.2 q.1
            · rw [if_neg h5] at H ⊢
              unfold w_X6_insertSub
              have hv : (0 ≤ v ∧ v < fL (sF (aNow a) id f)) ∧ 0 ≤ w ∧ w ≤ fS (sF (aNow a) id f) v := by have := h2.2; omega
              have hsub := hF.sub h2.1 hv.1.1 hv.1.2
              rw [subCount_eq hF h2.1 hv.1.1 hv.1.2]
              by_cases h6 : 4 ≤ fS (sF (aNow a) id f) v
              · rw [if_pos h6] at H
                rw [if_neg (by omega)]
                exact H M fr0 hX
              · rw [if_neg h6] at H
                rw [if_pos (by omega)]
                refine remember_k (by omega) hX (fun M1 f1 hX1 => ?_)
                have hF1 : RF M1 r (sF (aNow a) id) := hF.congr (f1 _ (by omega)) (f1 _ (by omega)) (f1 _ (by omega))
                refine addSub_eq (by omega) h2.1 (by omega) (hF1.sub h2.1 hv.1.1 hv.1.2).1 hv.2.1 hv.2.2 (by omega) ?_
                have hF2 := insS_RF hF1 h2.1 hv.1.1 hv.1.2 hv.2.1 hv.2.2 (by omega) h3
                have q := hX1.act' hi r0 f1 ⟨r1, r2⟩ hr (M2 := insS M1 r f v w (fS (sF (aNow a) id f) v) x) (fun c hc => insS_row (by omega) (by omega)) hF2
                have e0 : fL (fInsS (sF (aNow a) id f) v w x) = fL (sF (aNow a) id f) := by
                  unfold fL fInsS
                  simp
                have e : fS (fInsS (sF (aNow a) id f) v w x) v = fS (sF (aNow a) id f) v + 1 := by
                  have hvl : v.toNat < (sF (aNow a) id f).length := by have := hv.1; unfold fL at this; omega
                  have hwl : w.toNat ≤ (fV (sF (aNow a) id f) v).length := by have := hv.2; unfold fS at this; omega
                  unfold fS fInsS fV at *
                  simp [hvl, List.length_insertIdx]
                  grind
                rw [subCount_eq hF2 h2.1 hv.1.1 (by rw [uI_self, e0]; exact hv.1.2), uI_self, e]
                exact H _ q.2 q.1
          · rw [if_neg h4]
            rw [if_pos h4] at H
            exact H M fr0 hX
        · rw [if_neg h3]
          rw [if_pos h3] at H
          exact H M fr0 hX
      · rw [if_neg h2]
        by_cases h2f : sFld f
        · rw [if_neg (by rintro (z | z | z); exact z h1; exact z hm; exact z h2f), if_pos (fun z => h2 ⟨h2f, z⟩)] at H
          exact H M fr0 hX
        · rw [if_pos (Or.inr (Or.inr h2f))] at H
          exact H M fr0 hX
    · rw [if_neg h1]
      rw [if_pos (Or.inl h1)] at H
      exact H M fr0 hX
  · rw [if_pos (Or.inr (Or.inl hn))] at H
    rw [if_pos (by omega : (-1 : Int) < 0), ite_self]
    exact H M fr0 hX
theorem xs_change {N : Nat} {M : jM} {a : aA} {u id f v w x : Int} {k : Int → jM → Prop} (hN : 200 ≤ N) (hX : XR M a) (H : ∀ M', frX M M' → XR M' (a_change a u id f v w x).2 → k (a_change a u id f v w x).1 M') : w_X6_change N M 0 u id f v w x k := by
  unfold w_X6_change
  simp only [Int.reduceAdd, isBelow_eq, isNumber_eq, b01, ite_not]
  unfold a_change at H
  refine hX.find_k (by omega) (fun i r hi r0 r1 r2 hr => ?_) (fun hn => ?_)
  · have hm := List.mem_of_getElem? hi
    have hF := hr.2.2.2
    rw [if_neg (by omega : ¬ r < 0), hasSub_eq hF]
    simp only [isOpenTo_eq hr, b01, ite_not]
    by_cases h1 : sUsr u
    · rw [if_pos h1]
      by_cases h2 : sFld f ∧ (0 ≤ v ∧ v < fL (sF (aNow a) id f)) ∧ 0 ≤ w ∧ w < fS (sF (aNow a) id f) v
      · rw [if_pos h2]
        rw [if_neg (by rintro (z | z | z); exact z h1; exact z hm; exact z h2.1), if_neg (not_not_intro h2.2)] at H
        by_cases h3 : sNum x
        · rw [if_pos h3]
          rw [if_neg (not_not_intro h3)] at H
          by_cases h4 : sOpen (aNow a) u id
          · rw [if_pos h4]
            rw [if_neg (not_not_intro h4)] at H
            have hlen := hF.len h2.1
            have hsub := hF.sub h2.1 h2.2.1.1 h2.2.1.2
            rw [numberOf_eq hF h2.1 h2.2.1.1 h2.2.1.2 h2.2.2.1 h2.2.2.2]
            refine remember_k (by omega) hX (fun M1 f1 hX1 => ?_)
            have hF1 : RF M1 r (sF (aNow a) id) := hF.congr (f1 _ (by omega)) (f1 _ (by omega)) (f1 _ (by omega))
            rw [setNumber_eq h2.1 (by omega) (by omega)]
            have hF2 := chg_RF hF1 h2.1 h2.2.1.1 h2.2.1.2 h2.2.2.1 h2.2.2.2 h3
            have q := hX1.act' hi r0 f1 ⟨r1, r2⟩ hr (fun c hc => jU_row (by omega)) hF2
            exact H _ q.2 q.1
          · rw [if_neg h4]
            rw [if_pos h4] at H
            exact H M fr0 hX
        · rw [if_neg h3]
          rw [if_pos h3] at H
          exact H M fr0 hX
      · rw [if_neg h2]
        by_cases h2f : sFld f
        · rw [if_neg (by rintro (z | z | z); exact z h1; exact z hm; exact z h2f), if_pos (fun z => h2 ⟨h2f, z⟩)] at H
          exact H M fr0 hX
        · rw [if_pos (Or.inr (Or.inr h2f))] at H
          exact H M fr0 hX
    · rw [if_neg h1]
      rw [if_pos (Or.inl h1)] at H
      exact H M fr0 hX
  · rw [if_pos (Or.inr (Or.inl hn))] at H
    rw [if_pos (by omega : (-1 : Int) < 0), ite_self]
    exact H M fr0 hX
theorem len_delV {L : List (List Int)} {v : Int} (h0 : 0 ≤ v) (h1 : v < fL L) : fL (fDelV L v) = fL L - 1 := by
  unfold fL fDelV at *
  grind
theorem len_delS {L : List (List Int)} {v w : Int} : fL (fDelS L v w) = fL L := by
  unfold fL fDelS
  simp
theorem xs_remove {N : Nat} {M : jM} {a : aA} {u id f v w : Int} {k : Int → jM → Prop} (hN : 200 ≤ N) (hX : XR M a) (H : ∀ M', frX M M' → XR M' (a_remove a u id f v w).2 → k (a_remove a u id f v w).1 M') : w_X6_remove N M 0 u id f v w k := by
  unfold w_X6_remove
  simp only [Int.reduceAdd, isBelow_eq, b01, ite_not]
  unfold a_remove at H
  refine hX.find_k (by omega) (fun i r hi r0 r1 r2 hr => ?_) (fun hn => ?_)
  · have hm := List.mem_of_getElem? hi
    have hF := hr.2.2.2
    rw [if_neg (by omega : ¬ r < 0), hasPart_eq hF]
    simp only [isOpenTo_eq hr, b01, ite_not]
    by_cases h1 : sUsr u
    · rw [if_pos h1]
      by_cases h2 : sFld f ∧ (0 ≤ v ∧ v < fL (sF (aNow a) id f)) ∧ (w = -1 ∨ (0 ≤ w ∧ w < fS (sF (aNow a) id f) v))
      · rw [if_pos h2]
        rw [if_neg (by rintro (z | z | z); exact z h1; exact z hm; exact z h2.1), if_neg (not_not_intro h2.2)] at H
        by_cases h4 : sOpen (aNow a) u id
        · rw [if_pos h4]
          rw [if_neg (not_not_intro h4)] at H
          have hlen := hF.len h2.1
          have hsub := hF.sub h2.1 h2.2.1.1 h2.2.1.2
          refine remember_k (by omega) hX (fun M1 f1 hX1 => ?_)
          have hF1 : RF M1 r (sF (aNow a) id) := hF.congr (f1 _ (by omega)) (f1 _ (by omega)) (f1 _ (by omega))
          rw [subCount_eq hF1 h2.1 h2.2.1.1 h2.2.1.2]
          have whole : (w = -1 ∨ fS (sF (aNow a) id f) v = 1) → w_X1_dropValue N M1 r f v (fun M6 => w_X1_valueCount M6 r f (fun x7 => k x7 M6)) := by
            intro hw
            rw [if_pos hw] at H
            refine dropValue_eq (by omega) h2.1 h2.2.1.1 (hF1.len h2.1).1 h2.2.1.2 (by omega) ?_
            have hF2 := delC_RF hF1 h2.1 h2.2.1.1 h2.2.1.2
            have q := hX1.act' hi r0 f1 ⟨r1, r2⟩ hr (M2 := delC M1 r f v (fL (sF (aNow a) id f))) (fun c hc => delC_row (by omega) (by omega) (by omega)) hF2
            rw [valueCount_eq hF2 h2.1, uI_self, len_delV h2.2.1.1 h2.2.1.2]
            exact H _ q.2 q.1
          by_cases h5 : w = -1
          · rw [if_pos h5]
            exact whole (Or.inl h5)
          · rw [if_neg h5]
            by_cases h6 : fS (sF (aNow a) id f) v = 1
            · rw [if_pos h6]
              exact whole (Or.inr h6)
            · rw [if_neg h6]
              rw [if_neg (by omega)] at H
              refine dropSub_eq (by omega) h2.1 (by omega) (hF1.sub h2.1 h2.2.1.1 h2.2.1.2).1 (by omega) (by omega) (by omega) ?_
              have hF2 := delS_RF (w := w) hF1 h2.1 h2.2.1.1 h2.2.1.2 (by omega) (by omega) h6
              have q := hX1.act' hi r0 f1 ⟨r1, r2⟩ hr (M2 := delS M1 r f v w (fS (sF (aNow a) id f) v)) (fun c hc => delS_row (by omega) (by omega)) hF2
              rw [valueCount_eq hF2 h2.1, uI_self, len_delS]
              exact H _ q.2 q.1
        · rw [if_neg h4]
          rw [if_pos h4] at H
          exact H M fr0 hX
      · rw [if_neg h2]
        by_cases h2f : sFld f
        · rw [if_neg (by rintro (z | z | z); exact z h1; exact z hm; exact z h2f), if_pos (fun z => h2 ⟨h2f, z⟩)] at H
          exact H M fr0 hX
        · rw [if_pos (Or.inr (Or.inr h2f))] at H
          exact H M fr0 hX
    · rw [if_neg h1]
      rw [if_pos (Or.inl h1)] at H
      exact H M fr0 hX
  · rw [if_pos (Or.inr (Or.inl hn))] at H
    rw [if_pos (by omega : (-1 : Int) < 0), ite_self]
    exact H M fr0 hX
