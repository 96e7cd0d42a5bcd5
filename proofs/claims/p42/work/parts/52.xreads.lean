/-! THE CLASS'S CALLS THAT CHANGE NOTHING, and the text -/
theorem xs_records {M : jM} {a : aA} {k : Int → Prop} (hX : XR M a) (H : k (sI (aNow a)).length) : w_X6_records M 0 k := by
  unfold w_X6_records
  simp only [Int.reduceAdd]
  rw [hX.now.cnt.1]
  exact H
theorem xs_recordAt {M : jM} {a : aA} {p : Int} {k : Int → Prop} (hX : XR M a) (H : k (a_recordAt a p)) : w_X6_recordAt M 0 p k := by
  unfold w_X6_recordAt
  unfold a_recordAt at H
  have hc := hX.now.cnt
  simp only [Int.reduceAdd]
  rw [hc.1]
  by_cases h1 : p < 0
  · rw [if_pos h1] at H ⊢; exact H
  · rw [if_neg h1] at H ⊢
    by_cases h2 : p < (sI (aNow a)).length
    · rw [if_neg (by omega)] at H
      rw [if_pos h2]
      have hi : (sI (aNow a))[p.toNat]? = some ((sI (aNow a)).getD p.toNat 0) := by
        rw [List.getD_eq_getElem?_getD, List.getElem?_eq_getElem (by omega)]
        rfl
      have := (hX.now.rec hi).1
      rw [Int.toNat_of_nonneg (by omega)] at this
      simp only [Int.reduceAdd] at this
      rw [this]
      exact ⟨by omega, H⟩
    · rw [if_pos (by omega)] at H
      rw [if_neg h2]
      exact H
theorem xs_locker {N : Nat} {M : jM} {a : aA} {id : Int} {k : Int → Prop} (hN : 200 ≤ N) (hX : XR M a) (H : k (a_locker a id)) : w_X6_locker N M 0 id k := by
  unfold w_X6_locker
  unfold a_locker at H
  refine hX.find_k (by omega) (fun i r hi r0 r1 r2 hr => ?_) (fun hn => ?_)
  · rw [if_neg (by omega), hr.2.1]
    rw [if_neg (not_not_intro (List.mem_of_getElem? hi))] at H
    exact H
  · rw [if_pos hn] at H
    rw [if_pos (by omega)]
    exact H
theorem xs_values {N : Nat} {M : jM} {a : aA} {id f : Int} {k : Int → Prop} (hN : 200 ≤ N) (hX : XR M a) (H : k (a_values a id f)) : w_X6_values N M 0 id f k := by
  unfold w_X6_values
  simp only [isBelow_eq, b01, ite_not]
  unfold a_values at H
  refine hX.find_k (by omega) (fun i r hi r0 r1 r2 hr => ?_) (fun hn => ?_)
  · rw [if_neg (by omega)]
    by_cases h1 : sFld f
    · rw [if_pos h1, valueCount_eq hr.2.2.2 h1]
      rw [if_neg (fun z => z.elim (fun z => z (List.mem_of_getElem? hi)) (fun z => z h1))] at H
      exact H
    · rw [if_neg h1]
      rw [if_pos (Or.inr h1)] at H
      exact H
  · rw [if_pos (Or.inl hn)] at H
    rw [if_pos (by omega)]
    exact H
theorem xs_subvalues {N : Nat} {M : jM} {a : aA} {id f v : Int} {k : Int → Prop} (hN : 200 ≤ N) (hX : XR M a) (H : k (a_subvalues a id f v)) : w_X6_subvalues N M 0 id f v k := by
  unfold w_X6_subvalues
  unfold a_subvalues at H
  refine hX.find_k (by omega) (fun i r hi r0 r1 r2 hr => ?_) (fun hn => ?_)
  · rw [if_neg (by omega), hasValue_eq hr.2.2.2]
    simp only [b01, ite_not]
    by_cases h1 : sFld f
    · rw [if_neg (fun z => z.elim (fun z => z (List.mem_of_getElem? hi)) (fun z => z h1))] at H
      by_cases h2 : 0 ≤ v ∧ v < fL (sF (aNow a) id f)
      · rw [if_pos ⟨h1, h2⟩, subCount_eq hr.2.2.2 h1 h2.1 h2.2]
        rw [if_neg (not_not_intro h2)] at H
        exact H
      · rw [if_neg (fun z => h2 z.2)]
        rw [if_pos h2] at H
        exact H
    · rw [if_neg (fun z => h1 z.1)]
      rw [if_pos (Or.inr h1)] at H
      exact H
  · rw [if_pos (Or.inl hn)] at H
    rw [if_pos (by omega)]
    exact H
theorem xs_get {N : Nat} {M : jM} {a : aA} {id f v w : Int} {k : Int → Prop} (hN : 200 ≤ N) (hX : XR M a) (H : k (a_get a id f v w)) : w_X6_get N M 0 id f v w k := by
  unfold w_X6_get
  unfold a_get at H
  refine hX.find_k (by omega) (fun i r hi r0 r1 r2 hr => ?_) (fun hn => ?_)
  · rw [if_neg (by omega), hasSub_eq hr.2.2.2]
    simp only [b01, ite_not]
    by_cases h1 : sFld f
    · rw [if_neg (fun z => z.elim (fun z => z (List.mem_of_getElem? hi)) (fun z => z h1))] at H
      by_cases h2 : (0 ≤ v ∧ v < fL (sF (aNow a) id f)) ∧ 0 ≤ w ∧ w < fS (sF (aNow a) id f) v
      · rw [if_pos ⟨h1, h2⟩, numberOf_eq hr.2.2.2 h1 h2.1.1 h2.1.2 h2.2.1 h2.2.2]
        rw [if_neg (not_not_intro h2)] at H
        exact H
      · rw [if_neg (fun z => h2 z.2)]
        rw [if_pos h2] at H
        exact H
    · rw [if_neg (fun z => h1 z.1)]
      rw [if_pos (Or.inr h1)] at H
      exact H
  · rw [if_pos (Or.inl hn)] at H
    rw [if_pos (by omega)]
    exact H
theorem xs_lines {N : Nat} {M : jM} {a : aA} {id : Int} {k : Int → Prop} (hN : 200 ≤ N) (hX : XR M a) (H : k (a_lines a id)) : w_X6_lines N M 0 id k := by
  unfold w_X6_lines
  unfold a_lines at H
  refine hX.find_k (by omega) (fun i r hi r0 r1 r2 hr => ?_) (fun hn => ?_)
  · rw [if_neg (by omega)]
    rw [if_neg (not_not_intro (List.mem_of_getElem? hi))] at H
    exact lineCount_k (by omega) hX.now hr H
  · rw [if_pos hn] at H
    rw [if_pos (by omega)]
    exact H
theorem locV_none {x : Int} {V : List Int} {j : Int} (hj : 0 ≤ j) : locV x V j = -1000007 ∨ 0 ≤ locV x V j := by
  induction V generalizing j with
  | nil => exact Or.inl rfl
  | cons y V ih =>
    unfold locV
    split
    · exact Or.inr hj
    · exact ih (by omega)
theorem locV_lt {x : Int} {V : List Int} {j : Int} (hj : 0 ≤ j) : locV x V j < j + V.length ∨ locV x V j = -1000007 := by
  induction V generalizing j with
  | nil => exact Or.inr rfl
  | cons y V ih =>
    unfold locV
    split
    · left; simp; omega
    · have := ih (j := j + 1) (by omega)
      simp
      omega
theorem locV_cons (x y : Int) (V : List Int) (j : Int) : locV x (y :: V) j = if y = x then j else locV x V (j + 1) := rfl
theorem locF_cons (x : Int) (V : List Int) (L : List (List Int)) (v : Int) : locF x (V :: L) v = if locV x V 0 = -1000007 then locF x L (v + 1) else 10 * v + locV x V 0 := rfl
theorem fV_drop {L : List (List Int)} {p : Nat} (h1 : p < L.length) : L.drop p = fV L p :: L.drop (p + 1) := by
  rw [List.drop_eq_getElem_cons h1]
  unfold fV
  simp [h1]
theorem fN_drop {L : List (List Int)} {v : Int} {p : Nat} (h1 : p < (fV L v).length) : (fV L v).drop p = fN L v p :: (fV L v).drop (p + 1) := by
  rw [List.drop_eq_getElem_cons h1]
  unfold fN
  simp [h1]
theorem locate_lp1 {M : jM} {r f x v : Int} {F : Int → List (List Int)} {k : Int → Prop} {kx : Prop} (h : RF M r F) (hf : sFld f) (h0 : 0 ≤ v) (h1 : v < fL (F f)) (hv5 : v < 5) (hx : ∀ R, locV x (fV (F f) v) 0 = R → R ≠ -1000007 → k (10 * v + R)) (hk : locV x (fV (F f) v) 0 = -1000007 → kx) : ∀ (d n p : Nat), d < n → p + d = (fV (F f) v).length → locV x (fV (F f) v) 0 = locV x ((fV (F f) v).drop p) p → lp_X6_locate_53 f x r v M k kx n p := by
  have hs := h.sub hf h0 h1
  have hsl : fS (F f) v = (fV (F f) v).length := rfl
  intro d
  induction d with
  | zero =>
    intro n p hn hp e
    obtain ⟨n, rfl⟩ : ∃ m, n = m + 1 := ⟨n - 1, by omega⟩
    rw [lp_X6_locate_53, subCount_eq h hf h0 h1, if_neg (by omega)]
    refine hk ?_
    rw [e, List.drop_of_length_le (by omega)]
    rfl
  | succ d ih =>
    intro n p hn hp e
    obtain ⟨n, rfl⟩ : ∃ m, n = m + 1 := ⟨n - 1, by omega⟩
    rw [lp_X6_locate_53, subCount_eq h hf h0 h1, if_pos (by omega), numberOf_eq h hf h0 h1 (by omega) (by omega)]
    have hl : p < (fV (F f) v).length := by omega
    rw [fN_drop hl, locV_cons] at e
    by_cases z : fN (F f) v p = x
    · rw [if_pos z] at e ⊢
      simp (disch := omega) only [jW_id]
      exact hx p e (by omega)
    · rw [if_neg z] at e ⊢
      simp (disch := omega) only [jL, jW_id]
      exact ih n (p + 1) (by omega) (by omega) e
theorem locate_lp2 {N : Nat} {M : jM} {r f x : Int} {F : Int → List (List Int)} {k : Int → Prop} {kx : Prop} (hN : 200 ≤ N) (h : RF M r F) (hf : sFld f) (hx : ∀ R, locF x (F f) 0 = R → R ≠ -1000007 → k R) (hk : locF x (F f) 0 = -1000007 → kx) : ∀ (d n p : Nat), d < n → (p : Int) + d = fL (F f) → locF x (F f) 0 = locF x ((F f).drop p) p → lp_X6_locate_39 N f x r M k kx n p := by
  have hl := h.len hf
  intro d
  induction d with
  | zero =>
    intro n p hn hp e
    obtain ⟨n, rfl⟩ : ∃ m, n = m + 1 := ⟨n - 1, by omega⟩
    rw [lp_X6_locate_39, valueCount_eq h hf, if_neg (by omega)]
    refine hk ?_
    rw [e, List.drop_of_length_le (by unfold fL at hp; omega)]
    rfl
  | succ d ih =>
    intro n p hn hp e
    obtain ⟨n, rfl⟩ : ∃ m, n = m + 1 := ⟨n - 1, by omega⟩
    rw [lp_X6_locate_39, valueCount_eq h hf, if_pos (by omega)]
    have hs := h.sub hf (v := (p : Int)) (by omega) (by omega)
    rw [fV_drop (by unfold fL at hp; omega), locF_cons] at e
    refine locate_lp1 (v := (p : Int)) h hf (by omega) (by omega) (by omega) (fun R hR hne => ?_) (fun hno => ?_) (fV (F f) p).length N 0 (by unfold fS at hs; omega) (by omega) rfl
    · rw [hR, if_neg hne] at e
      have := locV_none (x := x) (V := fV (F f) p) (j := 0) (by omega)
      exact hx _ e (by omega)
    · rw [hno, if_pos rfl] at e
      simp (disch := omega) only [jL, jW_id]
      exact ih n (p + 1) (by omega) (by omega) e
theorem xs_locate {N : Nat} {M : jM} {a : aA} {id f x : Int} {k : Int → Prop} (hN : 200 ≤ N) (hX : XR M a) (H : k (a_locate a id f x)) : w_X6_locate N M 0 id f x k := by
  unfold w_X6_locate
  simp only [isBelow_eq, isNumber_eq, b01, ite_not]
  unfold a_locate at H
  refine hX.find_k (by omega) (fun i r hi r0 r1 r2 hr => ?_) (fun hn => ?_)
  · rw [if_neg (by omega)]
    by_cases h1 : sFld f
    · rw [if_pos h1]
      rw [if_neg (fun z => z.elim (fun z => z (List.mem_of_getElem? hi)) (fun z => z h1))] at H
      by_cases h2 : sNum x
      · rw [if_pos h2]
        rw [if_neg (not_not_intro h2)] at H
        have hl := hr.2.2.2.len h1
        refine locate_lp2 hN hr.2.2.2 h1 (fun R hR _ => by rw [hR] at H; exact H) (fun hno => by rw [hno] at H; exact H) (fL (sF (aNow a) id f)).toNat N 0 (by omega) (by omega) rfl
      · rw [if_neg h2]
        rw [if_pos h2] at H
        exact H
    · rw [if_neg h1]
      rw [if_pos (Or.inr h1)] at H
      exact H
  · rw [if_pos (Or.inl hn)] at H
    rw [if_pos (by omega)]
    exact H
theorem xs_column {M : jM} {a : aA} {c w : Int} {k : Int → Prop} (hX : XR M a) (H : k (a_column a c w)) : w_X6_column M 0 c w k := by
  unfold w_X6_column
  simp only [isBelow_eq, b01, ite_not, Int.reduceAdd]
  unfold a_column at H
  by_cases h1 : sCol c
  · have hc := hX.now.col h1
    simp only [Int.reduceAdd] at hc
    rw [if_pos h1, hc.1, hc.2.1, hc.2.2]
    rw [if_neg (not_not_intro h1)] at H
    by_cases e0 : w = 0
    · subst e0; rw [if_pos rfl]; rw [if_pos (by omega)] at H; exact ⟨h1, H⟩
    · rw [if_neg e0]
      by_cases e1 : w = 1
      · subst e1; rw [if_pos rfl]; rw [if_pos (by omega)] at H; exact ⟨h1, H⟩
      · rw [if_neg e1]
        by_cases e2 : w = 2
        · subst e2; rw [if_pos rfl]; rw [if_pos (by omega)] at H; exact ⟨h1, H⟩
        · rw [if_neg e2]; rw [if_neg (by omega)] at H; exact H
  · rw [if_neg h1]
    rw [if_pos h1] at H
    exact H
theorem xs_associated {M : jM} {a : aA} {f : Int} {k : Int → Prop} (hX : XR M a) (H : k (a_associated a f)) : w_X6_associated M 0 f k := by
  unfold w_X6_associated
  simp only [isBelow_eq, b01, ite_not, Int.reduceAdd]
  unfold a_associated at H
  by_cases h1 : sFld f
  · have hc := hX.now.ass h1
    simp only [Int.reduceAdd] at hc
    rw [if_pos h1]
    rw [if_neg (not_not_intro h1)] at H
    refine ⟨h1, ?_⟩
    simp only [hc.1]
    rcases hc.2 with z | z <;> rw [z] at H <;> simp only [z] <;> exact H
  · rw [if_neg h1]
    rw [if_pos h1] at H
    exact H
theorem xs_listSize {N : Nat} {M : jM} {a : aA} {l : Int} {k : Int → Prop} (hN : 200 ≤ N) (hX : XR M a) (H : k (a_listSize a l)) : w_X6_listSize N M 0 l k := by
  unfold w_X6_listSize
  simp only [isBelow_eq, b01, ite_not]
  unfold a_listSize at H
  by_cases h1 : sLst l
  · rw [if_pos h1]
    rw [if_neg (not_not_intro h1)] at H
    exact listedCount_k (by omega) hX.now h1 H
  · rw [if_neg h1]
    rw [if_pos h1] at H
    exact H
theorem filter_at {P : Nat → Bool} {n p : Nat} (hp : p < n) (h : P p = true) : ((List.range n).filter P)[(List.range p).countP P]? = some p := by
  induction n with
  | zero => omega
  | succ n ih =>
    rw [List.range_succ, List.filter_append]
    by_cases e : p = n
    · subst e
      rw [List.countP_eq_length_filter, List.getElem?_append_right (Nat.le_refl _)]
      simp [h]
    · have := ih (by omega)
      rw [List.getElem?_append_left (List.getElem?_eq_some_iff.mp this).1]
      exact this
theorem listAt_lp {M : jM} {s : aS} {l i : Int} {k : Int → Prop} {kx : Prop} (hS : XS M 1 s) (hl : sLst l) (hi : 0 ≤ i) (hx : ∀ p : Nat, ((List.range 100).filter (fun j : Nat => sL s l j))[i.toNat]? = some p → k p) (hk : ((List.range 100).filter (fun j : Nat => sL s l j))[i.toNat]? = none → kx) : ∀ (d n p : Nat), d < n → p + d = 100 → ((List.range p).countP (fun j : Nat => sL s l j) : Nat) ≤ i → lp_X6_listAt_24 0 l i M k kx n ((List.range p).countP (fun j : Nat => sL s l j) : Nat) p := by
  intro d
  induction d with
  | zero =>
    intro n p hn hp hc
    obtain ⟨n, rfl⟩ : ∃ m, n = m + 1 := ⟨n - 1, by omega⟩
    have : p = 100 := by omega
    subst this
    rw [lp_X6_listAt_24, if_neg (by omega)]
    refine hk ?_
    rw [List.getElem?_eq_none_iff, ← List.countP_eq_length_filter]
    omega
  | succ d ih =>
    intro n p hn hp hc
    obtain ⟨n, rfl⟩ : ∃ m, n = m + 1 := ⟨n - 1, by omega⟩
    have hle : (List.range p).countP (fun j : Nat => sL s l j) ≤ p := Nat.le_trans List.countP_le_length (by simp)
    rw [lp_X6_listAt_24, if_pos (by omega), show (0 : Int) + 1 = 1 from rfl, isListed_eq (b := 1) hS hl (by omega) (by omega)]
    have ih := ih n (p + 1) (by omega) (by omega)
    rw [range_countP] at ih
    simp (disch := omega) only [jL, jW_id]
    by_cases z : sL s l p = true
    · have zb : bI (sL s l p) = 1 := by rw [z]; rfl
      rw [zb, if_neg (by omega)]
      rw [if_pos z] at ih
      by_cases e : (((List.range p).countP (fun j : Nat => sL s l j) : Nat) : Int) = i
      · rw [if_pos e]
        have := filter_at (P := fun j : Nat => sL s l j) (n := 100) (p := p) (by omega) z
        refine hx p ?_
        rw [← this]
        congr 1
        omega
      · rw [if_neg e]
        exact ih (by omega)
    · have zb : bI (sL s l p) = 0 := by rw [show sL s l p = false by simpa using z]; rfl
      rw [zb, if_pos rfl]
      rw [if_neg z] at ih
      exact ih (by omega)
theorem xs_listAt {N : Nat} {M : jM} {a : aA} {l i : Int} {k : Int → Prop} (hN : 200 ≤ N) (hX : XR M a) (H : k (a_listAt a l i)) : w_X6_listAt N M 0 l i k := by
  unfold w_X6_listAt
  simp only [isBelow_eq, b01, ite_not]
  unfold a_listAt at H
  by_cases h1 : sLst l
  · rw [if_pos h1]
    rw [if_neg (not_not_intro h1)] at H
    by_cases h2 : i < 0
    · rw [if_pos h2] at H ⊢; exact H
    · rw [if_neg h2] at H ⊢
      refine listAt_lp hX.now h1 (by omega) (fun p e => by rw [e] at H; exact H) (fun e => by rw [e] at H; exact H) 100 N 0 (by omega) (by omega) (by simp; omega)
  · rw [if_neg h1]
    rw [if_pos h1] at H
    exact H
/-! the text, the printed text -/
theorem XR.setText {M M' : jM} {a : aA} {T : List Int} (h : XR M a) (e : ∀ c : Int, c ≠ 237 → c ≠ 238 → M' c = M c) (h1 : M' 237 1 = T.length) (h2 : T.length ≤ 90) (h3 : ∀ (i : Nat) (x : Int), T[i]? = some x → M' 238 i = x ∧ 32 ≤ x ∧ x ≤ 126) : XR M' (aNow a, aH a, T, aP a) := by
  obtain ⟨q1, q2, q3, q4, q5, q6, q7, q8, q9, q10, q11, q12, q13, q14⟩ := h
  have pin : ∀ i : Int, 0 ≤ i → i < 4 → 48 < M 48 i ∧ M 48 i < 191 := fun i h0 h1 => by obtain ⟨q, a1, a2, a3⟩ := q4 i h0 h1; omega
  have e48 := e 48 (by omega) (by omega)
  refine ⟨q1.congr (fun c h0 h1 => e c (by omega) (by omega)), by rw [e 0 (by omega) (by omega)]; exact q2, q3, fun i h0 h1 => by rw [e48]; exact q4 i h0 h1, fun i j a b c d => by rw [e48]; exact q5 i j a b c d, fun i h0 h1 j a b => by have := pin i h0 h1; rw [e48, e _ (by omega) (by omega)]; exact q6 i h0 h1 j a b, fun i h0 h1 j k a b c d => by have := pin i h0 h1; rw [e48, e _ (by omega) (by omega)]; exact q7 i h0 h1 j k a b c d, fun i s hi => ?_, h1, h2, h3, by rw [e 239 (by omega) (by omega)]; exact q12, q13, fun i x hi => by rw [e 240 (by omega) (by omega)]; exact q14 i x hi⟩
  have hi : (aH a)[i]? = some s := hi
  have hl : i < (aH a).length := (List.getElem?_eq_some_iff.mp hi).1
  have := pin i (by omega) (by omega)
  rw [e48]
  exact (q8 i s hi).congr (fun c h0 h1 => e c (by omega) (by omega))
theorem xs_append {M : jM} {a : aA} {c : Int} {k : Int → jM → Prop} (hX : XR M a) (H : ∀ M', frX M M' → XR M' (a_append a c).2 → k (a_append a c).1 M') : w_X6_append M 0 c k := by
  unfold w_X6_append
  simp only [Int.reduceAdd]
  unfold a_append at H
  have ht := hX.2.2.2.2.2.2.2.2
  rw [ht.1]
  by_cases h1 : 32 ≤ c ∧ c ≤ 126
  · rw [if_neg (by omega), if_pos h1.2]
    rw [if_neg (not_not_intro h1)] at H
    by_cases h2 : 90 ≤ (aT a).length
    · rw [if_pos h2] at H
      rw [if_neg (by omega)]
      exact H M fr0 hX
    · rw [if_neg h2] at H
      rw [if_pos (by omega)]
      unfold w_X3_put
      have ek : jK (237 + 1) % 10000 = 90 := by decide
      have ec : jChr c = c := by unfold jChr; omega
      rw [ht.1, ek, ec, if_pos (by omega)]
      simp only [jL, Int.reduceAdd]
      have e1 : jU M 238 ((aT a).length : Int) c 237 1 = (aT a).length := by rw [jU_row (by omega)]; exact ht.1
      rw [e1, jW_id (by omega)]
      refine ⟨by omega, ?_⟩
      have e2 : jU (jU M 238 ((aT a).length : Int) c) 237 1 (((aT a).length : Int) + 1) 237 1 = (aT a).length + 1 := by simp [jU]
      rw [e2]
      refine H _ (fun y hy => by rw [jU_row (by omega), jU_row (by omega)]) (hX.setText (fun y h1 h2 => by rw [jU_row h1, jU_row h2]) ?_ (by simp; omega) (fun i x hi => ?_))
      · rw [e2]; simp
      · rw [jU_row (by omega)]
        by_cases z : i < (aT a).length
        · rw [List.getElem?_append_left z] at hi
          simp only [jU]
          rw [if_neg (by omega)]
          exact ht.2.2.1 i x hi
        · have hz : i = (aT a).length := by
            have := (List.getElem?_eq_some_iff.mp hi).1
            simp at this
            omega
          subst hz
          have : x = c := by simpa using hi.symm
          subst this
          simp [jU]
          exact h1
  · rw [if_pos h1] at H
    by_cases h2 : c < 32
    · rw [if_pos h2]; exact H M fr0 hX
    · rw [if_neg h2, if_neg (by omega)]; exact H M fr0 hX
theorem xs_clearText {M : jM} {a : aA} {k : Int → jM → Prop} (hX : XR M a) (H : ∀ M', frX M M' → XR M' (a_clearText a).2 → k (a_clearText a).1 M') : w_X6_clearText M 0 k := by
  unfold w_X6_clearText
  simp only [Int.reduceAdd, jL]
  unfold a_clearText at H
  have ht := hX.2.2.2.2.2.2.2.2
  rw [ht.1]
  exact H _ (fun y hy => jU_row (by omega)) (hX.setText (T := []) (fun y h1 h2 => jU_row h1) (by simp [jU]) (by simp) (fun i x hi => by simp at hi))
