/-! the reference's calls that change nothing; lists as words of bits; the text -/
theorem ms_lines {N : Nat} {M : jM} {a : aA} {id : Int} {k : Int → Prop} (hN : 5000 ≤ N) (hM : MR M a) (H : k (a_lines a id)) : w_X7_lines N M 252 id k := by
  unfold w_X7_lines
  obtain ⟨O, hO⟩ := MS_iff.mp hM.now
  unfold a_lines at H
  refine placeOf_k (by omega) hO (fun i hi => ?_) (fun hn => ?_)
  · have hr := hO.rec hi
    have l0 : 0 ≤ lineL (aNow a) id 0 := by have := (hr.2.1.len (f := 0) (by decide)).2; unfold lineL; split <;> omega
    have e : lmax (aNow a) id 4 = nLines (aNow a) id := by
      show max (max (max (max 0 (lineL (aNow a) id 0)) (lineL (aNow a) id 1)) (lineL (aNow a) id 2)) (lineL (aNow a) id 3) = _
      unfold nLines
      omega
    rw [if_neg (not_not_intro hr.2.2)] at H
    rw [if_neg (by omega)]
    exact mlines_lp hO hi (by rw [e]; exact H) 4 N 0 (by omega) (by omega) (by simp [lmax])
  · rw [if_pos hn] at H
    rw [if_pos (by omega)]
    exact H
/-! locate: from behind -/
def locB (x v B : Int) (V : List Int) (p : Nat) : Int := if locV x (V.drop p) p = -1000007 then B else 10 * v + locV x (V.drop p) p
theorem mloc_lp1 {M : jM} {r id K f x v B : Int} {F : rF} {kx : Int → Prop} (hr : sRec r) (h : RM M 253 (55 + 106 * r) id K F) (hf : sFld f) (v0 : 0 ≤ v) (v1 : v < fL (F f)) (H : kx (locB x v B (fV (F f) v) 0)) : ∀ (p n : Nat), p < n → p ≤ (fV (F f) v).length → lp_X7_locate_65 252 f x r v M kx n (locB x v B (fV (F f) v) p) ((p : Int) - 1) := by
  have hl := h.len hf
  have hs := h.sub hf v0 v1
  have hse : fS (F f) v = ((fV (F f) v).length : Nat) := rfl
  intro p
  induction p with
  | zero =>
    intro n hn hp
    obtain ⟨n, rfl⟩ : ∃ m, n = m + 1 := ⟨n - 1, by omega⟩
    rw [lp_X7_locate_65, if_pos (by omega)]
    exact H
  | succ p ih =>
    intro n hn hp
    obtain ⟨n, rfl⟩ : ∃ m, n = m + 1 := ⟨n - 1, by omega⟩
    have ih := ih n (by omega) (by omega)
    have hnum := h.num hf v0 v1 (w := (p : Int)) (by omega) (by omega)
    have e1 : ((p + 1 : Nat) : Int) - 1 = p := by omega
    have ed := fN_drop (L := F f) (v := v) (p := p) (by omega)
    rw [e1, lp_X7_locate_65, if_neg (by omega), mnum_eq hr hf (by omega) (by omega), hnum.1]
    simp (disch := omega) only [jL, jW_id]
    have el : locV x ((fV (F f) v).drop p) p = if fN (F f) v p = x then (p : Int) else locV x ((fV (F f) v).drop (p + 1)) ((p + 1 : Nat) : Int) := by
      rw [ed, locV_cons]
      rfl
    have en := locV_none (x := x) (V := (fV (F f) v).drop (p + 1)) (j := ((p + 1 : Nat) : Int)) (by omega)
    rw [show (p : Int) + -1 = (p : Int) - 1 by omega]
    by_cases z : fN (F f) v p = x
    · rw [if_pos z]
      rw [if_pos z] at el
      have eb : locB x v B (fV (F f) v) p = 10 * v + p := by
        unfold locB
        rw [el, if_neg (by omega)]
      rw [eb] at ih
      exact ih
    · rw [if_neg z]
      rw [if_neg z] at el
      have eb : locB x v B (fV (F f) v) p = locB x v B (fV (F f) v) (p + 1) := by
        unfold locB
        rw [el]
      rw [eb] at ih
      exact ih
theorem mloc_lp2 {N : Nat} {M : jM} {r id K f x : Int} {F : rF} {kx : Int → Prop} (hN : 5000 ≤ N) (hr : sRec r) (h : RM M 253 (55 + 106 * r) id K F) (hf : sFld f) (H : kx (locF x (F f) 0)) : ∀ (p n : Nat), p < n → p ≤ (F f).length → lp_X7_locate_47 N 252 f x r M kx n (locF x ((F f).drop p) p) ((p : Int) - 1) := by
  have hl := h.len hf
  have hle : fL (F f) = ((F f).length : Nat) := rfl
  intro p
  induction p with
  | zero =>
    intro n hn hp
    obtain ⟨n, rfl⟩ : ∃ m, n = m + 1 := ⟨n - 1, by omega⟩
    rw [lp_X7_locate_47, if_pos (by omega)]
    exact H
  | succ p ih =>
    intro n hn hp
    obtain ⟨n, rfl⟩ : ∃ m, n = m + 1 := ⟨n - 1, by omega⟩
    have ih := ih n (by omega) (by omega)
    have e1 : ((p + 1 : Nat) : Int) - 1 = p := by omega
    have hs := h.sub hf (v := (p : Int)) (by omega) (by omega)
    have hse : fS (F f) p = ((fV (F f) p).length : Nat) := rfl
    rw [e1, lp_X7_locate_47, if_neg (by omega), subsOf_eq hr hf (by omega), hs.1]
    simp (disch := omega) only [jL, jW_id]
    rw [hse]
    have ed := fV_drop (L := F f) (p := p) (by omega)
    have eb : locB x p (locF x ((F f).drop (p + 1)) ((p + 1 : Nat) : Int)) (fV (F f) p) (fV (F f) p).length = locF x ((F f).drop (p + 1)) ((p + 1 : Nat) : Int) := by
      unfold locB
      rw [List.drop_length]
      exact if_pos rfl
    have hh := mloc_lp1 (x := x) (B := locF x ((F f).drop (p + 1)) ((p + 1 : Nat) : Int)) (kx := fun x13 => lp_X7_locate_47 N 252 f x r M kx n x13 ((p : Int) + (-1))) hr h hf (v := (p : Int)) (by omega) (by omega) ?_ (fV (F f) p).length N (by omega) (by omega)
    · rw [eb] at hh
      exact hh
    · rw [show (p : Int) + -1 = (p : Int) - 1 by omega]
      have ef : locF x ((F f).drop p) p = locB x p (locF x ((F f).drop (p + 1)) ((p + 1 : Nat) : Int)) (fV (F f) p) 0 := by
        rw [ed, locF_cons]
        rfl
      rw [← ef]
      exact ih
theorem ms_locate {N : Nat} {M : jM} {a : aA} {id f x : Int} {k : Int → Prop} (hN : 5000 ≤ N) (hM : MR M a) (H : k (a_locate a id f x)) : w_X7_locate N M 252 id f x k := by
  unfold w_X7_locate
  obtain ⟨O, hO⟩ := MS_iff.mp hM.now
  unfold a_locate at H
  refine placeOf_k (by omega) hO (fun i hi => ?_) (fun hn => ?_)
  · have hr := hO.rec hi
    rw [if_neg (by omega), isField_eq]
    simp only [b01, ite_not, isNum_eq]
    by_cases hf : sFld f
    · rw [if_neg (fun z => z.elim (fun z => z hr.2.2) (fun z => z hf))] at H
      rw [if_pos hf]
      by_cases hx : sNum x
      · have l := hr.2.1.len hf
        have hle : fL (sF (aNow a) id f) = ((sF (aNow a) id f).length : Nat) := rfl
        rw [if_neg (not_not_intro hx)] at H
        rw [if_pos hx, valuesOf_eq hr.1 hr.2.1 hf]
        simp (disch := omega) only [jL, jW_id]
        have hh := mloc_lp2 (N := N) (x := x) (kx := k) hN hr.1 hr.2.1 hf H (sF (aNow a) id f).length N (by omega) (by omega)
        rw [List.drop_length] at hh
        exact hh
      · rw [if_pos hx] at H
        rw [if_neg hx]
        exact H
    · rw [if_pos (Or.inr hf)] at H
      rw [if_neg hf]
      exact H
  · rw [if_pos (Or.inl hn)] at H
    rw [if_pos (by omega)]
    exact H
theorem MO.col {M : jM} {s : aS} {O : List Int} {c : Int} (h : MO M 253 0 s O) (hc : sCol c) : M 253 (5 + 3 * c) = sC s c 0 ∧ M 253 (6 + 3 * c) = sC s c 1 ∧ M 253 (7 + 3 * c) = sC s c 2 := by
  have := h.2.2.2.2.2.1 c hc
  simp only [Int.zero_add] at this
  exact this
theorem ofColumn_eq {M : jM} {c w : Int} (hc : sCol c) (hw : 0 ≤ w ∧ w ≤ 2) (k : Int → Prop) : w_X7_ofColumn M 252 c w k = k (M 253 (5 + 3 * c + w)) := by
  unfold w_X7_ofColumn
  rw [jW_id (a := 3 * c) (by omega), jW_id (a := 5 + 3 * c) (by omega), jW_id (by omega)]
  exact propext ⟨fun h => h.2, fun h => ⟨by omega, h⟩⟩
theorem ms_column {M : jM} {a : aA} {c w : Int} {k : Int → Prop} (hM : MR M a) (H : k (a_column a c w)) : w_X7_column M 252 c w k := by
  unfold w_X7_column
  obtain ⟨O, hO⟩ := MS_iff.mp hM.now
  unfold a_column at H
  rw [isColumn_eq]
  simp only [b01, ite_not]
  by_cases hc : sCol c
  · rw [if_neg (not_not_intro hc)] at H
    rw [if_pos hc, in_eq]
    simp only [b01, ite_not]
    by_cases hw : 0 ≤ w ∧ w ≤ 2
    · rw [if_pos hw] at H
      rw [if_pos hw, ofColumn_eq hc hw]
      have hcol := hO.col hc
      have e : M 253 (5 + 3 * c + w) = sC (aNow a) c w := by
        rcases (by omega : w = 0 ∨ w = 1 ∨ w = 2) with rfl | rfl | rfl
        · rw [← hcol.1]; congr 1; omega
        · rw [← hcol.2.1]; congr 1; omega
        · rw [← hcol.2.2]; congr 1; omega
      rw [e]
      exact H
    · rw [if_neg hw] at H
      rw [if_neg hw]
      exact H
  · rw [if_pos hc] at H
    rw [if_neg hc]
    exact H
theorem ms_associated {M : jM} {a : aA} {f : Int} {k : Int → Prop} (hM : MR M a) (H : k (a_associated a f)) : w_X7_associated M 252 f k := by
  unfold w_X7_associated
  obtain ⟨O, hO⟩ := MS_iff.mp hM.now
  unfold a_associated at H
  rw [isField_eq]
  simp only [b01, ite_not]
  by_cases hf : sFld f
  · rw [if_neg (not_not_intro hf)] at H
    rw [if_pos hf, jW_id (by omega)]
    simp only [Int.reduceAdd]
    rw [(hO.ass hf).1]
    exact ⟨by omega, H⟩
  · rw [if_pos hf] at H
    rw [if_neg hf]
    exact H
theorem ms_printed {M : jM} {a : aA} {i : Int} {k : Int → Prop} (hM : MR M a) (H : k (a_printed a i)) : w_X7_printed M 252 i k := by
  obtain ⟨h1, h2, h3, h4, h5, h6, h7, h8, h9, h10⟩ := hM
  unfold w_X7_printed
  unfold a_printed at H
  by_cases z : i < 0
  · rw [if_pos z] at H ⊢
    exact H
  · rw [if_neg z] at H ⊢
    rw [h8]
    by_cases y : i < (aP a).length
    · rw [if_neg (by omega)] at H
      rw [if_pos y]
      refine ⟨by omega, ?_⟩
      have e : (aP a)[i.toNat]? = some ((aP a).getD i.toNat 0) := by grind
      have := h10 i.toNat _ e
      rw [Int.toNat_of_nonneg (by omega)] at this
      simp only [Int.reduceAdd]
      rw [this]
      exact H
    · rw [if_pos (by omega)] at H
      rw [if_neg y]
      exact H
theorem MR.setText {M M' : jM} {a : aA} {T : List Int} (h : MR M a) (e1 : ∀ c : Int, c ≠ 252 → c ≠ 256 → M' c = M c) (e3 : M' 252 3 = M 252 3) (e7 : M' 252 7 = M 252 7) (h1 : M' 252 5 = T.length) (h2 : T.length ≤ 90) (h3 : ∀ (i : Nat) (x : Int), T[i]? = some x → M' 256 i = x ∧ 32 ≤ x ∧ x ≤ 126) : MR M' (aNow a, aH a, T, aP a) := by
  obtain ⟨a1, a2, a3, a4, a5, a6, a7, a8, a9, a10⟩ := h
  exact ⟨a1.same (e1 253 (by omega) (by omega)), by rw [e3]; exact a2, a3, fun i s hs => (a4 i s hs).move (fun j _ _ => by rw [e1 255 (by omega) (by omega)]), h1, h2, h3, by rw [e7]; exact a8, a9, fun i x hx => by rw [e1 257 (by omega) (by omega)]; exact a10 i x hx⟩
theorem ms_append {M : jM} {a : aA} {c : Int} {k : Int → jM → Prop} (hM : MR M a) (H : ∀ M', frM M M' → MR M' (a_append a c).2 → k (a_append a c).1 M') : w_X7_append M 252 c k := by
  unfold w_X7_append
  unfold a_append at H
  have ht := hM.2.2.2.2
  rw [in_eq]
  simp only [b01, ite_not]
  by_cases hc : 32 ≤ c ∧ c ≤ 126
  · rw [if_neg (not_not_intro hc)] at H
    rw [if_pos hc, ht.1]
    by_cases z : 90 ≤ (aT a).length
    · rw [if_pos z] at H
      rw [if_pos (by omega)]
      exact H M (fun _ _ => rfl) hM
    · rw [if_neg z] at H
      rw [if_neg (by omega)]
      simp only [Int.reduceAdd, jL]
      refine ⟨by omega, ?_⟩
      have e5 : jU M 256 ((aT a).length : Int) c 252 5 = (aT a).length := by simp [jU, ht.1]
      rw [e5, jW_id (by omega)]
      have er : jU (jU M 256 ((aT a).length : Int) c) 252 5 (((aT a).length : Int) + 1) 252 5 = ((aT a).length : Int) + 1 := by simp [jU]
      rw [er]
      refine H _ (fun q hq => ?_) (hM.setText (fun q h1 h2 => ?_) ?_ ?_ ?_ ?_ (fun i x hx => ?_))
      · rw [jU_row (by omega), jU_row (by omega)]
      · rw [jU_row (by omega), jU_row (by omega)]
      · simp [jU]
      · simp [jU]
      · simp [jU]
      · simp; omega
      · rw [jU_row (by omega)]
        rcases Nat.lt_or_ge i (aT a).length with q | q
        · have hx2 : (aT a)[i]? = some x := by grind
          have := ht.2.2.1 i x hx2
          rw [jU_in (by omega)]
          exact this
        · have hi : i = (aT a).length := by grind
          have hxc : x = c := by grind
          subst hi
          subst hxc
          exact ⟨by simp [jU], hc⟩
  · rw [if_pos hc] at H
    rw [if_neg hc]
    exact H M (fun _ _ => rfl) hM
theorem ms_clearText {M : jM} {a : aA} {k : Int → jM → Prop} (hM : MR M a) (H : ∀ M', frM M M' → MR M' (a_clearText a).2 → k (a_clearText a).1 M') : w_X7_clearText M 252 k := by
  unfold w_X7_clearText
  unfold a_clearText at H
  simp only [jL]
  have ht := hM.2.2.2.2
  rw [ht.1]
  refine H _ (fun q hq => ?_) (hM.setText (fun q h1 h2 => ?_) ?_ ?_ ?_ ?_ (fun i x hx => ?_))
  · rw [jU_row (by omega)]
  · rw [jU_row (by omega)]
  · simp [jU]
  · simp [jU]
  · simp [jU]
  · simp
  · simp at hx
/-! recordAt: by rank -/
theorem rkI {I : List Int} : ∀ {i : Nat} {y : Int}, I.Pairwise (· < ·) → I[i]? = some y → I.countP (fun j => decide (j < y)) = i := by
  induction I with
  | nil => intro i y h hi; simp at hi
  | cons x I ih =>
    intro i y h hi
    obtain ⟨h1, h2⟩ := List.pairwise_cons.mp h
    cases i with
    | zero =>
      have : x = y := by simpa using hi
      subst this
      rw [List.countP_cons_of_neg (by simp)]
      exact List.countP_eq_zero.mpr (fun z hz => by have := h1 z hz; simp; omega)
    | succ i =>
      have hi : I[i]? = some y := by simpa using hi
      have hxy : x < y := h1 y (List.mem_of_getElem? hi)
      rw [List.countP_cons_of_pos (by simpa using hxy), ih h2 hi]
def rkO (s : aS) (y : Int) : Nat := (sI s).countP (fun j => decide (j < y))
theorem mrec_lp1 {M : jM} {s : aS} {O : List Int} {i : Nat} {y : Int} {kx : Int → Prop} (h : MO M 253 0 s O) (hi : O[i]? = some y) (H : kx (rkO s y : Nat)) : ∀ (d n p : Nat), d < n → p + d = O.length → lp_X7_recordAt_28 252 i M kx n (((O.take p).countP (fun j => decide (j < y)) : Nat) : Int) p := by
  have hl := h.len
  have hm : M 253 0 = (O.length : Nat) := by rw [h.2.1, hl.1]
  have hri := h.rec hi
  intro d
  induction d with
  | zero =>
    intro n p hn hp
    obtain ⟨n, rfl⟩ : ∃ m, n = m + 1 := ⟨n - 1, by omega⟩
    have : p = O.length := by omega
    subst this
    rw [lp_X7_recordAt_28]
    simp only [Int.reduceAdd, hm]
    rw [if_neg (by omega), List.take_length]
    refine ⟨by omega, ?_⟩
    rw [h.2.2.1.countP_eq]
    exact H
  | succ d ih =>
    intro n p hn hp
    obtain ⟨n, rfl⟩ : ∃ m, n = m + 1 := ⟨n - 1, by omega⟩
    have ih := ih n (p + 1) (by omega) (by omega)
    have hx : O[p]? = some (O.getD p 0) := by grind
    have hr := h.rec hx
    rw [take_countP hx] at ih
    have hcl : (O.take p).countP (fun j => decide (j < y)) ≤ 10 := by
      have := List.countP_le_length (p := fun j => decide (j < y)) (l := O.take p)
      have := List.length_take_le p O
      omega
    rw [lp_X7_recordAt_28]
    simp only [Int.reduceAdd, hm]
    rw [if_pos (by omega), of_eq hr.1 (by omega), of_eq hri.1 (by omega)]
    simp only [Int.add_zero]
    rw [hr.2.1.1, hri.2.1.1]
    refine ⟨by omega, ?_⟩
    by_cases z : O.getD p 0 < y
    · rw [if_pos (by simpa using z)] at ih
      rw [if_pos z]
      simp (disch := omega) only [jL, jW_id]
      exact ih
    · rw [if_neg (by simpa using z)] at ih
      rw [if_neg z]
      simp (disch := omega) only [jL, jW_id]
      simp only [Nat.add_zero] at ih
      exact ih
theorem mrec_lp2 {N : Nat} {M : jM} {s : aS} {O : List Int} {q : Int} {kx : Int → Prop} (hN : 5000 ≤ N) (h : MO M 253 0 s O) (H : ∀ z, ((z = -1000007 ∧ ∀ y ∈ O, (rkO s y : Int) ≠ q) ∨ (z ∈ O ∧ (rkO s z : Int) = q)) → kx z) : ∀ (d n p : Nat) (z : Int), d < n → p + d = O.length → ((z = -1000007 ∧ ∀ y ∈ O.take p, (rkO s y : Int) ≠ q) ∨ (z ∈ O ∧ (rkO s z : Int) = q)) → lp_X7_recordAt_12 N 252 q M kx n z p := by
  have hl := h.len
  have hm : M 253 0 = (O.length : Nat) := by rw [h.2.1, hl.1]
  intro d
  induction d with
  | zero =>
    intro n p z hn hp hz
    obtain ⟨n, rfl⟩ : ∃ m, n = m + 1 := ⟨n - 1, by omega⟩
    have : p = O.length := by omega
    subst this
    rw [lp_X7_recordAt_12]
    simp only [Int.reduceAdd, hm]
    rw [if_neg (by omega)]
    rw [List.take_length] at hz
    exact ⟨by omega, H z hz⟩
  | succ d ih =>
    intro n p z hn hp hz
    obtain ⟨n, rfl⟩ : ∃ m, n = m + 1 := ⟨n - 1, by omega⟩
    have hx : O[p]? = some (O.getD p 0) := by grind
    have hr := h.rec hx
    rw [lp_X7_recordAt_12]
    simp only [Int.reduceAdd, hm]
    rw [if_pos (by omega)]
    refine ⟨by omega, ?_⟩
    have et : O.take (p + 1) = O.take p ++ [O.getD p 0] := by
      rw [List.take_add_one, hx]
      rfl
    refine mrec_lp1 h hx ?_ O.length N 0 (by omega) (by omega)
    by_cases w : (rkO s (O.getD p 0) : Int) = q
    · rw [if_pos w, of_eq hr.1 (by omega)]
      simp (disch := omega) only [jL, jW_id]
      simp only [Int.add_zero]
      rw [hr.2.1.1]
      exact ih n (p + 1) _ (by omega) (by omega) (Or.inr ⟨List.mem_of_getElem? hx, w⟩)
    · rw [if_neg w]
      simp (disch := omega) only [jL, jW_id]
      refine ih n (p + 1) _ (by omega) (by omega) ?_
      rcases hz with ⟨z1, z2⟩ | z1
      · refine Or.inl ⟨z1, fun y hy => ?_⟩
        rw [et] at hy
        rcases List.mem_append.mp hy with hy | hy
        · exact z2 y hy
        · have : y = O.getD p 0 := by simpa using hy
          rw [this]
          exact w
      · exact Or.inr z1
theorem ms_recordAt {N : Nat} {M : jM} {a : aA} {q : Int} {k : Int → Prop} (hN : 5000 ≤ N) (hM : MR M a) (H : k (a_recordAt a q)) : w_X7_recordAt N M 252 q k := by
  unfold w_X7_recordAt
  obtain ⟨O, hO⟩ := MS_iff.mp hM.now
  have hl := hO.len
  have hs := hO.1.2.1
  unfold a_recordAt at H
  by_cases z : q < 0
  · rw [if_pos z] at H ⊢
    exact H
  · rw [if_neg z] at H ⊢
    refine mrec_lp2 hN hO (fun y hy => ?_) O.length N 0 (-1000007) (by omega) (by omega) (Or.inl ⟨rfl, fun y hy => by simp at hy⟩)
    have key : ∀ (j : Nat) (x : Int), (sI (aNow a))[j]? = some x → rkO (aNow a) x = j := fun j x hj => rkI hs hj
    by_cases w : ((sI (aNow a)).length : Int) ≤ q
    · rw [if_pos w] at H
      rcases hy with ⟨y1, y2⟩ | ⟨y1, y2⟩
      · rw [y1]
        exact H
      · obtain ⟨j, hj⟩ := List.mem_iff_getElem?.mp (hO.2.2.1.mem_iff.mp y1)
        have h1 := key j y hj
        have h2 : j < (sI (aNow a)).length := (List.getElem?_eq_some_iff.mp hj).1
        omega
    · rw [if_neg w] at H
      have hx : (sI (aNow a))[q.toNat]? = some ((sI (aNow a)).getD q.toNat 0) := by grind
      have hk := key _ _ hx
      rcases hy with ⟨y1, y2⟩ | ⟨y1, y2⟩
      · exact absurd (by omega) (y2 _ (hO.2.2.1.mem_iff.mpr (List.mem_of_getElem? hx)))
      · obtain ⟨j, hj⟩ := List.mem_iff_getElem?.mp (hO.2.2.1.mem_iff.mp y1)
        have h1 := key j y hj
        have : j = q.toNat := by omega
        subst this
        rw [hx] at hj
        have : y = (sI (aNow a)).getD q.toNat 0 := by simpa using hj.symm
        rw [this]
        exact H
