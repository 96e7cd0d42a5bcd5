/-! numbers: a column's numbers are those of its fields -/
theorem numbers_in {a : aA} {id c : Int} (h : id ∈ sI (aNow a)) (hc : sCol c) : a_numbers a id c = ((colS (aNow a) id c).length : Nat) := by
  rw [a_numbers, if_neg (fun q => q.elim (fun z => z h) (fun z => z hc))]
theorem numberAt_in {a : aA} {id c p : Int} (h : id ∈ sI (aNow a)) (hc : sCol c) (h0 : 0 ≤ p) (h1 : p < ((colS (aNow a) id c).length : Nat)) : a_numberAt a id c p = (colS (aNow a) id c).getD p.toNat 0 := by
  rw [a_numberAt, if_neg (fun q => q.elim (fun z => z h) (fun z => z hc)), if_neg (by omega), if_neg (by omega)]
theorem numberAt_none {a : aA} {id c p : Int} (h : id ∈ sI (aNow a)) (hc : sCol c) (h0 : 0 ≤ p) (h1 : ((colS (aNow a) id c).length : Nat) ≤ p) : a_numberAt a id c p = -1000007 := by
  rw [a_numberAt, if_neg (fun q => q.elim (fun z => z h) (fun z => z hc)), if_neg (by omega), if_pos h1]
theorem numberAt_neg {a : aA} {id c p : Int} (h : id ∈ sI (aNow a)) (hc : sCol c) (h0 : p < 0) : a_numberAt a id c p = -1000002 := by
  rw [a_numberAt, if_neg (fun q => q.elim (fun z => z h) (fun z => z hc)), if_pos h0]
theorem column_in {a : aA} {c w : Int} (hc : sCol c) (h : 0 ≤ w ∧ w ≤ 2) : a_column a c w = sC (aNow a) c w := by
  rw [a_column, if_neg (not_not_intro hc), if_pos h]
theorem take_flat {L : List (List Int)} {p : Nat} (h : p < L.length) : (L.take (p + 1)).flatten = (L.take p).flatten ++ fV L p := by
  have e : L[p]? = some (fV L p) := by
    unfold fV
    rw [Int.toNat_natCast, List.getD_eq_getElem?_getD, List.getElem?_eq_getElem h]
    rfl
  rw [List.take_add_one, e]
  simp
theorem flat_at {L : List (List Int)} {p q : Nat} (h : p < L.length) (hq : q < (fV L p).length) : L.flatten.getD ((L.take p).flatten.length + q) 0 = (fV L p).getD q 0 ∧ (L.take p).flatten.length + q < L.flatten.length := by
  have e : L.flatten = (L.take p).flatten ++ (fV L p ++ (L.drop (p + 1)).flatten) := by
    conv => lhs; rw [← List.take_append_drop p L, fV_drop h]
    simp
  rw [e]
  constructor
  · rw [List.getD_eq_getElem?_getD, List.getD_eq_getElem?_getD, List.getElem?_append_right (by omega), Nat.add_sub_cancel_left, List.getElem?_append_left hq]
  · simp only [List.length_append]
    omega
theorem flat_20 {L : List (List Int)} (h : fOK L) : L.flatten.length ≤ 20 ∧ ∀ x ∈ L.flatten, -999 ≤ x ∧ x ≤ 999 := h.flat
theorem flat_le {L : List (List Int)} (p : Nat) : (L.take p).flatten.length ≤ L.flatten.length := by
  have e : L.flatten = (L.take p).flatten ++ (L.drop p).flatten := by rw [← List.flatten_append, List.take_append_drop]
  rw [e, List.length_append]
  omega
theorem foldl_ok {V : List Int} (h : 1 ≤ V.length) (h2 : ∀ x ∈ V, -999 ≤ x ∧ x ≤ 999) : V.foldl jMax (-1000) = mxV V := by
  cases V with
  | nil => simp at h
  | cons x V =>
    have := h2 x (by simp)
    show V.foldl jMax (jMax (-1000) x) = V.foldl jMax x
    congr 1
    unfold jMax
    rw [if_pos (by omega)]
section NB
variable {N : Nat} {a : aA} {id c kd f g : Int} {L : List (List Int)}
theorem nb64 (hN : 300 ≤ N) (hid : id ∈ sI (aNow a)) (hc : sCol c) (hf : sFld f) (hL : sF (aNow a) id f = L) (hok : fOK L) {v : Int} (v0 : 0 ≤ v) (v1 : v < fL L) {kx : Int → Int → Int → Int → jM → Prop} :
    ∀ (d n q : Nat) (M : jM) (pl sm mo : Int), d < n → q + d = (fV L v).length → XR M a → (0 ≤ pl ∧ pl ≤ 100 - d) → (-(50000 - 999 * d) ≤ sm ∧ sm ≤ 50000 - 999 * d) → (kd = 0 → ∀ i : Nat, q ≤ i → i < (fV L v).length → a_numberAt a id c (pl + (i - q)) = fN L v i) →
      (∀ M' : jM, XR M' a → kx (pl + (if kd = 0 then (d : Int) else 0)) (sm + ((fV L v).drop q).sum) 1 (((fV L v).drop q).foldl jMax mo) M') → lp_L_numbers_64 N 0 id c kd f v kx n pl sm 1 mo q M := by
  have h4 := fS_ok hok v0 v1
  intro d
  induction d with
  | zero =>
    intro n q M pl sm mo hn hq hX hpl hsm hK H
    obtain ⟨n, rfl⟩ : ∃ m, n = m + 1 := ⟨n - 1, by omega⟩
    rw [lp_L_numbers_64]
    refine v_subvalues hN hX (fun w hw => ?_)
    rw [subvalues_in hid hf (by rw [hL]; exact ⟨v0, v1⟩), hL] at hw
    unfold fS at hw
    rw [if_neg (by omega)]
    have := H M hX
    rw [List.drop_eq_nil_of_le (by omega)] at this
    have e : pl + (if kd = 0 then ((0 : Nat) : Int) else 0) = pl := by split <;> omega
    rw [e] at this
    simpa using this
  | succ d ih =>
    intro n q M pl sm mo hn hq hX hpl hsm hK H
    obtain ⟨n, rfl⟩ : ∃ m, n = m + 1 := ⟨n - 1, by omega⟩
    rw [lp_L_numbers_64]
    refine v_subvalues hN hX (fun w hw => ?_)
    rw [subvalues_in hid hf (by rw [hL]; exact ⟨v0, v1⟩), hL] at hw
    unfold fS at hw h4
    rw [if_pos (by omega)]
    refine v_get hN hX (fun x hx => ?_)
    have hq1 : (q : Int) < fS L v := by unfold fS; omega
    rw [get_in hid hf (by rw [hL]; exact ⟨v0, v1⟩) (by rw [hL]; exact ⟨by omega, hq1⟩), hL] at hx
    have hxb := fN_ok hok v0 v1 (by omega : (0 : Int) ≤ q) hq1
    refine jL_w (by omega) (fun sm' hsm' => ?_)
    refine jL_s (fun x68 => x68 = jMax mo x) (fun j hj => ?_) (fun mo' hmo => ?_)
    · by_cases c1 : x ≤ mo
      · rw [if_pos c1]; exact hj _ (by unfold jMax; rw [if_neg (by omega)])
      · rw [if_neg c1]; exact hj _ (by unfold jMax; rw [if_pos (by omega)])
    have hmo : mo' = jMax mo x := hmo
    rw [if_neg (by omega)]
    have e1 : (fV L v).drop q = x :: (fV L v).drop (q + 1) := by rw [fN_drop (by omega), ← hx]
    have next : ∀ (M' : jM) (pl' : Int), XR M' a → pl' = pl + (if kd = 0 then 1 else 0) → jL (jW ((q : Int) + 1)) (fun x77 => lp_L_numbers_64 N 0 id c kd f v kx n pl' sm' 1 mo' x77 M') := by
      intro M' pl' hX' hp'
      refine jL_w (by omega) (fun q2 hq2 => ?_)
      subst hq2
      have hp2 : 0 ≤ pl' ∧ pl' ≤ 100 - (d : Int) := by
        split at hp' <;> omega
      refine ih n (q + 1) M' pl' sm' mo' (by omega) (by omega) hX' hp2 (by omega) (fun ck i hi1 hi2 => ?_) (fun M2 hX2 => ?_)
      · rw [if_pos ck] at hp'
        have := hK ck i (by omega) hi2
        rw [← this]
        congr 1
        omega
      · have := H M2 hX2
        rw [e1] at this
        simp only [List.sum_cons, List.foldl_cons] at this
        rw [← hmo] at this
        have e2 : pl + (if kd = 0 then ((d + 1 : Nat) : Int) else 0) = pl' + (if kd = 0 then (d : Int) else 0) := by
          rw [hp']
          split <;> omega
        have e3 : sm + (x + ((fV L v).drop (q + 1)).sum) = sm' + ((fV L v).drop (q + 1)).sum := by omega
        rw [e2, e3] at this
        exact this
    by_cases ck : kd = 0
    · rw [if_pos ck]
      refine v_numberAt hN hX (fun t M1 ht hX1 => ?_)
      have hk := hK ck q (by omega) (by omega)
      have e0 : pl + ((q : Int) - q) = pl := by omega
      rw [e0] at hk
      rw [if_pos (by omega), if_pos ck]
      refine jL_w (by omega) (fun pl' hp' => ?_)
      exact next M1 pl' hX1 (by rw [if_pos ck]; omega)
    · rw [if_neg ck, if_neg ck]
      refine jL_w (by omega) (fun pl' hp' => ?_)
      exact next M pl' hX (by rw [if_neg ck]; omega)
theorem nb44 (hN : 300 ≤ N) (hid : id ∈ sI (aNow a)) (hc : sCol c) (hf : sFld f) (hg : sFld g) (hkd : 0 ≤ kd ∧ kd ≤ 4) (hB : colS (aNow a) id c = colN (sF (aNow a) id) kd f g) (hL : sF (aNow a) id f = L) (hok : fOK L) (hok2 : fOK (sF (aNow a) id g)) {kx : Int → Int → Int → jM → Prop} :
    ∀ (d n p : Nat) (M : jM) (pl sm : Int), d < n → p + d = L.length → XR M a → pl = (if kd = 0 then (((L.take p).flatten.length : Nat) : Int) else 0) → sm = (L.take p).flatten.sum →
      (∀ M' : jM, XR M' a → kx (if kd = 0 then ((L.flatten.length : Nat) : Int) else 0) L.flatten.sum 1 M') → lp_L_numbers_44 N 0 id c kd f g (fL L) kx n pl sm 1 p M := by
  have h20 := flat_20 hok
  have hl5 := hok.1
  intro d
  induction d with
  | zero =>
    intro n p M pl sm hn hp hX hpl hsm H
    obtain ⟨n, rfl⟩ : ∃ m, n = m + 1 := ⟨n - 1, by omega⟩
    rw [lp_L_numbers_44, if_neg (by unfold fL; omega)]
    have := H M hX
    rw [List.take_of_length_le (by omega)] at hpl hsm
    rw [hpl, hsm]
    exact this
  | succ d ih =>
    intro n p M pl sm hn hp hX hpl hsm H
    obtain ⟨n, rfl⟩ : ∃ m, n = m + 1 := ⟨n - 1, by omega⟩
    have v1 : (p : Int) < fL L := by unfold fL; omega
    have h4 := fS_ok hok (by omega : (0 : Int) ≤ p) v1
    unfold fS at h4
    have htl := flat_le (L := L) p
    rw [lp_L_numbers_44, if_pos v1, if_neg (by omega)]
    have hsb : -19980 ≤ sm ∧ sm ≤ 19980 := by
      have := sum_bd2 (B := (L.take p).flatten) (fun x hx => by
        obtain ⟨V, hV, hx⟩ := List.mem_flatten.mp hx
        exact (hok.2 V (List.mem_of_mem_take hV)).2.2 x hx)
      omega
    have hVk : ∀ x ∈ fV L p, -999 ≤ x ∧ x ≤ 999 := (hok.2 _ (fV_mem (by omega : (0 : Int) ≤ p) v1)).2.2
    refine nb64 hN hid hc hf hL hok (by omega) v1 (fV L p).length N 0 M pl sm (-1000) (by omega) (by omega) hX (by rw [hpl]; split <;> omega) (by omega) (fun ck i _ hi => ?_) (fun M1 hX1 => ?_)
    · have hfa := flat_at (L := L) (p := p) (q := i) (by omega) hi
      have eB : colS (aNow a) id c = L.flatten := by
        rw [hB]
        unfold colN
        rw [if_pos ck, hL]
      rw [if_pos ck] at hpl
      have e0 : pl + ((i : Int) - (0 : Nat)) = (((L.take p).flatten.length + i : Nat) : Int) := by omega
      rw [e0, numberAt_in hid hc (by omega) (by rw [eB]; omega), eB, Int.toNat_natCast, hfa.1]
      unfold fN
      rw [Int.toNat_natCast]
    · rw [if_neg (by omega)]
      have hpl' : pl + (if kd = 0 then (((fV L p).length : Nat) : Int) else 0) = if kd = 0 then (((L.take (p + 1)).flatten.length : Nat) : Int) else 0 := by
        rw [hpl, take_flat (by omega)]
        split
        · simp
        · rfl
      have hsm' : sm + ((fV L p).drop 0).sum = (L.take (p + 1)).flatten.sum := by
        rw [hsm, take_flat (by omega)]
        simp
      have hmo : ((fV L p).drop 0).foldl jMax (-1000) = mxV (fV L p) := by
        rw [List.drop_zero]
        exact foldl_ok (by omega) hVk
      rw [hpl', hsm', hmo]
      have next : ∀ M' : jM, XR M' a → jL (jW ((p : Int) + 1)) (fun x51 => lp_L_numbers_44 N 0 id c kd f g (fL L) kx n (if kd = 0 then (((L.take (p + 1)).flatten.length : Nat) : Int) else 0) (L.take (p + 1)).flatten.sum 1 x51 M') := by
        intro M' hX'
        refine jL_w (by omega) (fun q hq => ?_)
        subst hq
        exact ih n (p + 1) M' _ _ (by omega) (by omega) hX' rfl rfl H
      by_cases c3 : kd = 3
      · rw [if_pos c3]
        refine v_numberAt hN hX1 (fun t M2 ht hX2 => ?_)
        have eB : colS (aNow a) id c = L.map mxV := by
          rw [hB]
          unfold colN
          rw [if_neg (by omega), if_neg (by omega), if_neg (by omega), if_pos c3, hL]
        rw [numberAt_in hid hc (by omega) (by rw [eB, List.length_map]; omega), eB] at ht
        have e5 : (L.map mxV).getD ((p : Int).toNat) 0 = mxV (fV L p) := by
          unfold fV
          rw [Int.toNat_natCast, List.getD_eq_getElem?_getD, List.getElem?_map, List.getD_eq_getElem?_getD, List.getElem?_eq_getElem (by omega : p < L.length)]
          rfl
        rw [if_pos (by omega), if_neg (by omega)]
        exact next M2 hX2
      · rw [if_neg c3]
        by_cases c4 : kd = 4
        · rw [if_pos c4]
          refine v_values hN hX1 (fun w hw => ?_)
          rw [values_in hid hg] at hw
          by_cases c5 : (p : Int) < w
          · rw [if_pos c5]
            refine v_numberAt hN hX1 (fun t M2 ht hX2 => ?_)
            have hg1 := fS_ok hok2 (by omega : (0 : Int) ≤ p) (by omega)
            refine v_get hN hX2 (fun x1 hx1 => ?_)
            refine v_get hN hX2 (fun x2 hx2 => ?_)
            rw [get_in hid hf (by rw [hL]; omega) (by rw [hL]; unfold fS; omega), hL] at hx1
            rw [get_in hid hg (by omega) (by omega)] at hx2
            have b1 := fN_ok hok (by omega : (0 : Int) ≤ p) v1 (by omega : (0 : Int) ≤ 0) (by unfold fS; omega)
            have b2 := fN_ok hok2 (by omega : (0 : Int) ≤ p) (by omega) (by omega : (0 : Int) ≤ 0) (by omega)
            have b3 := mul_bd (a := x1) (b := x2) (by omega) (by omega)
            have hgl : (fL (sF (aNow a) id g)) = ((sF (aNow a) id g).length : Nat) := rfl
            have eB : colS (aNow a) id c = List.zipWith (fun V W => V.getD 0 0 * W.getD 0 0) L (sF (aNow a) id g) := by
              rw [hB]
              unfold colN
              rw [if_neg (by omega), if_neg (by omega), if_neg (by omega), if_neg (by omega), hL]
            rw [numberAt_in hid hc (by omega) (by rw [eB, List.length_zipWith]; omega), eB] at ht
            have e5 : (List.zipWith (fun V W => V.getD 0 0 * W.getD 0 0) L (sF (aNow a) id g)).getD ((p : Int).toNat) 0 = x1 * x2 := by
              rw [hx1, hx2]
              unfold fN fV
              rw [Int.toNat_natCast, List.getD_eq_getElem?_getD, List.getElem?_zipWith, List.getElem?_eq_getElem (by omega : p < L.length), List.getElem?_eq_getElem (by omega : p < (sF (aNow a) id g).length)]
              rw [List.getD_eq_getElem?_getD (l := L), List.getD_eq_getElem?_getD (l := sF (aNow a) id g), List.getElem?_eq_getElem (by omega : p < L.length), List.getElem?_eq_getElem (by omega : p < (sF (aNow a) id g).length)]
              rfl
            rw [jW_id (by omega), if_pos (by rw [ht, e5])]
            exact next M2 hX2
          · rw [if_neg c5]
            exact next M1 hX1
        · rw [if_neg c4]
          exact next M1 hX1
end NB
theorem nums_k {N : Nat} {M : jM} {a : aA} {id c : Int} {k : Int → jM → Prop} (hN : 300 ≤ N) (hX : XR M a) (hid : id ∈ sI (aNow a)) (hc : sCol c) (K : ∀ M' : jM, XR M' a → k 1 M') : w_L_numbers N M 0 id c k := by
  have hs := hX.aok
  obtain ⟨k0, k4, hf, hg⟩ := sC_ok hs hc
  unfold w_L_numbers
  refine v_column hN hX (fun kd hkd => ?_)
  refine v_column hN hX (fun f hff => ?_)
  refine v_column hN hX (fun g hgg => ?_)
  rw [column_in hc (by decide)] at hkd hff hgg
  have hB : colS (aNow a) id c = colN (sF (aNow a) id) kd f g := by rw [hkd, hff, hgg]; rfl
  rw [← hkd] at k0 k4
  rw [← hff] at hf
  rw [← hgg] at hg
  generalize hL : sF (aNow a) id f = L
  have hok : fOK L := by rw [← hL]; exact (hs.2 id hid).2.2 f hf
  have hok2 := (hs.2 id hid).2.2 g hg
  have h20 := flat_20 hok
  have hl5 := hok.1
  have hg5 := hok2.1
  refine v_values hN hX (fun w hw => ?_)
  rw [values_in hid hf, hL] at hw
  subst hw
  have hLl : fL L = (L.length : Nat) := rfl
  have hGl : fL (sF (aNow a) id g) = ((sF (aNow a) id g).length : Nat) := rfl
  refine nb44 hN hid hc hf hg ⟨k0, k4⟩ hB hL hok hok2 L.length N 0 M 0 0 (by omega) (by omega) hX (by simp) (by simp) (fun M1 hX1 => ?_)
  refine jL_s (fun x14 => (kd = 4 → x14 = min (fL L) (fL (sF (aNow a) id g))) ∧ (¬ kd = 4 → x14 = fL L)) (fun j hj => ?_) (fun x14 h14 => ?_)
  · by_cases c4 : kd = 4
    · rw [if_pos c4]
      refine v_values hN hX1 (fun w hw => ?_)
      rw [values_in hid hg] at hw
      by_cases c5 : w < fL L
      · rw [if_pos c5]
        refine v_values hN hX1 (fun w2 hw2 => ?_)
        rw [values_in hid hg] at hw2
        exact hj _ ⟨fun _ => by omega, fun z => absurd c4 z⟩
      · rw [if_neg c5]
        exact hj _ ⟨fun _ => by omega, fun z => absurd c4 z⟩
    · rw [if_neg c4]
      exact hj _ ⟨fun z => absurd z c4, fun _ => rfl⟩
  obtain ⟨h14, h14b⟩ := h14
  refine jL_s (fun x16 => x16 = ((colS (aNow a) id c).length : Nat)) (fun j hj => ?_) (fun x16 h16 => ?_)
  · by_cases c0 : kd = 0
    · rw [if_pos c0]
      refine hj _ ?_
      rw [if_pos c0, hB]
      unfold colN
      rw [if_pos c0, hL]
    · rw [if_neg c0]
      by_cases c3 : kd < 3
      · rw [if_pos c3]
        refine hj _ ?_
        rw [hB]
        unfold colN
        rw [if_neg c0]
        by_cases c1 : kd = 1
        · rw [if_pos c1]; rfl
        · rw [if_neg c1, if_pos (by omega)]; rfl
      · rw [if_neg c3]
        refine hj _ ?_
        rw [hB]
        unfold colN
        rw [if_neg c0, if_neg (by omega), if_neg (by omega), hL]
        by_cases c4 : kd = 3
        · rw [if_pos c4, List.length_map]
          exact h14b (by omega)
        · rw [if_neg c4, List.length_zipWith]
          have := h14 (by omega)
          omega
  have h16 : x16 = ((colS (aNow a) id c).length : Nat) := h16
  rw [if_neg (by omega)]
  refine v_numbers hN hX1 (fun t M2 ht hX2 => ?_)
  rw [numbers_in hid hc] at ht
  rw [if_pos (by omega)]
  refine v_numberAt hN hX2 (fun t M3 ht hX3 => ?_)
  rw [numberAt_none hid hc (by omega) (by omega)] at ht
  rw [if_pos ht]
  refine v_numberAt hN hX3 (fun t M4 ht hX4 => ?_)
  rw [numberAt_neg hid hc (by decide)] at ht
  rw [if_pos ht]
  by_cases c1 : kd = 1
  · rw [if_pos c1]
    have eB : colS (aNow a) id c = [fL L] := by
      rw [hB]
      unfold colN
      rw [if_neg (by omega), if_pos c1, hL]
    refine v_numberAt hN hX4 (fun t M5 ht hX5 => ?_)
    rw [numberAt_in hid hc (by decide) (by rw [eB]; show (0 : Int) < ((1 : Nat) : Int); decide), eB] at ht
    have ht : t = fL L := ht
    rw [if_pos ht, if_neg (by omega)]
    exact K M5 hX5
  · rw [if_neg c1]
    by_cases c2 : kd = 2
    · rw [if_pos c2]
      have eB : colS (aNow a) id c = [L.flatten.sum] := by
        rw [hB]
        unfold colN
        rw [if_neg (by omega), if_neg c1, if_pos c2, hL]
      refine v_numberAt hN hX4 (fun t M5 ht hX5 => ?_)
      rw [numberAt_in hid hc (by decide) (by rw [eB]; show (0 : Int) < ((1 : Nat) : Int); decide), eB] at ht
      have ht : t = L.flatten.sum := ht
      rw [if_pos ht]
      exact K M5 hX5
    · rw [if_neg c2]
      exact K M4 hX4
