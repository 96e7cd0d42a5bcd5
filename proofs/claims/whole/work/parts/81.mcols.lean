/-! COLUMNS OF THE REFERENCE -/
def wf (M M' : jM) : Prop := (∀ c : Int, c < 258 → c ≠ 252 → M' c = M c) ∧ ∀ i : Int, i < 8 → M' 252 i = M 252 i
theorem wf.rfl {M : jM} : wf M M := ⟨fun _ _ _ => Eq.refl _, fun _ _ => Eq.refl _⟩
theorem wf.tr {M M1 M2 : jM} (h : wf M M1) (g : wf M1 M2) : wf M M2 := ⟨fun c a b => by rw [g.1 c a b, h.1 c a b], fun i a => by rw [g.2 i a, h.2 i a]⟩
theorem wf.mfr {M M' : jM} (h : wf M M') : mfr M M' := ⟨fun c hc => h.1 c (by omega) (by omega), fun c h0 h1 => h.1 c (by omega) (by omega), h.2 3 (by omega), h.2 5 (by omega), h.2 7 (by omega)⟩
theorem wf.frM {M M' : jM} (h : wf M M') : frM M M' := fun c hc => h.1 c (by omega) (by omega)
theorem wf.MO {M M' : jM} {s : aS} {O : List Int} (e : wf M M') (h : MO M 253 0 s O) : MO M' 253 0 s O := h.same (e.1 253 (by omega) (by omega))
theorem MR.wf {M M' : jM} {a : aA} (h : MR M a) (e : wf M M') : MR M' a := h.frame e.mfr (h.now.same (e.1 253 (by omega) (by omega)))
/-- the row so far -/
def SM (M0 M : jM) (B : List Int) : Prop := wf M0 M ∧ (∀ c : Int, 258 < c → M c = M0 c) ∧ M 252 11 = B.length ∧ ∀ (i : Nat) (x : Int), B[i]? = some x → M 258 i = x
theorem gives_k {M0 M : jM} {B : List Int} {x : Int} {k : jM → Prop} (h : SM M0 M B) (hl : B.length < 20) (H : ∀ M', SM M0 M' (B ++ [x]) → k M') : w_X7_gives M 252 x k := by
  obtain ⟨⟨a1, a2⟩, a3, a4, a5⟩ := h
  unfold w_X7_gives
  rw [a4]
  simp only [jL, Int.reduceAdd]
  have e1 : jU M 258 (B.length : Int) x 252 11 = B.length := by rw [jU_row (by omega)]; exact a4
  rw [e1, jW_id (by omega)]
  refine ⟨by omega, H _ ⟨⟨fun c h1 h2 => by rw [jU_row h2, jU_row (by omega)]; exact a1 c h1 h2, fun i hi => by rw [jU_in (by omega), jU_row (by omega)]; exact a2 i hi⟩, fun c hc => by rw [jU_row (by omega), jU_row (by omega)]; exact a3 c hc, by simp [jU], fun i z hi => ?_⟩⟩
  rw [jU_row (by omega)]
  by_cases q : i < B.length
  · rw [List.getElem?_append_left q] at hi
    rw [jU_in (by omega)]
    exact a5 i z hi
  · have hz : i = B.length := by
      have := (List.getElem?_eq_some_iff.mp hi).1
      simp at this
      omega
    subst hz
    have : z = x := by simpa using hi.symm
    subst this
    simp [jU]
theorem RM.sm {M0 M : jM} {B : List Int} {o id K : Int} {F : rF} (h : SM M0 M B) (hR : RM M0 253 o id K F) : RM M 253 o id K F := hR.move (fun i _ _ => by rw [h.1.1 253 (by omega) (by omega)])
theorem givesAll_lp1 {M0 : jM} {r id K f v : Int} {F : rF} {C : List Int} {kx : jM → Prop} (hr : sRec r) (hF : RM M0 253 (55 + 106 * r) id K F) (hf : sFld f) (v0 : 0 ≤ v) (v1 : v < fL (F f)) (hC : C.length ≤ 20) (H : ∀ M', SM M0 M' C → kx M') : ∀ (d n p : Nat) (M : jM) (B : List Int), d < n → p + d = (fV (F f) v).length → SM M0 M B → B ++ (fV (F f) v).drop p = C → lp_X7_givesAll_15 252 r f v kx n p M := by
  have hsl : fS (F f) v = (fV (F f) v).length := rfl
  have hl := hF.len hf
  have hs := hF.sub hf v0 v1
  intro d
  induction d with
  | zero =>
    intro n p M B hn hp hB e
    obtain ⟨n, rfl⟩ : ∃ m, n = m + 1 := ⟨n - 1, by omega⟩
    have hFM := RM.sm hB hF
    rw [lp_X7_givesAll_15, subsOf_eq hr hf (by omega), (hFM.sub hf v0 v1).1, if_neg (by omega)]
    rw [List.drop_of_length_le (by omega), List.append_nil] at e
    exact H M (by rw [← e]; exact hB)
  | succ d ih =>
    intro n p M B hn hp hB e
    obtain ⟨n, rfl⟩ : ∃ m, n = m + 1 := ⟨n - 1, by omega⟩
    have hpl : p < (fV (F f) v).length := by omega
    have hFM := RM.sm hB hF
    rw [lp_X7_givesAll_15, subsOf_eq hr hf (by omega), (hFM.sub hf v0 v1).1, if_pos (by omega), mnum_eq hr hf (by omega) (by omega), (hFM.num hf v0 v1 (w := (p : Int)) (by omega) (by omega)).1]
    rw [fN_drop hpl] at e
    have el := congrArg List.length e
    simp only [List.length_append, List.length_cons] at el
    refine gives_k hB (by omega) (fun M1 h1 => ?_)
    simp (disch := omega) only [jL, jW_id]
    exact ih n (p + 1) M1 _ (by omega) (by omega) h1 (by simpa using e)
theorem givesAll_lp2 {N : Nat} {M0 : jM} {r id K f : Int} {F : rF} {C : List Int} {kx : jM → Prop} (hN : 5000 ≤ N) (hr : sRec r) (hF : RM M0 253 (55 + 106 * r) id K F) (hf : sFld f) (hC : C.length ≤ 20) (H : ∀ M', SM M0 M' C → kx M') : ∀ (d n p : Nat) (M : jM) (B : List Int), d < n → (p : Int) + d = fL (F f) → SM M0 M B → B ++ ((F f).drop p).flatten = C → lp_X7_givesAll_2 N 252 r f kx n p M := by
  have hl := hF.len hf
  intro d
  induction d with
  | zero =>
    intro n p M B hn hp hB e
    obtain ⟨n, rfl⟩ : ∃ m, n = m + 1 := ⟨n - 1, by omega⟩
    have hFM := RM.sm hB hF
    rw [lp_X7_givesAll_2, valuesOf_eq hr hFM hf, if_neg (by omega)]
    rw [List.drop_of_length_le (by unfold fL at hp; omega)] at e
    simp at e
    exact H M (by rw [← e]; exact hB)
  | succ d ih =>
    intro n p M B hn hp hB e
    obtain ⟨n, rfl⟩ : ∃ m, n = m + 1 := ⟨n - 1, by omega⟩
    have hFM := RM.sm hB hF
    have hpl : p < (F f).length := by unfold fL at hp; omega
    have hs := hF.sub hf (v := (p : Int)) (by omega) (by omega)
    have hsl : fS (F f) (p : Int) = (fV (F f) p).length := rfl
    rw [fV_drop hpl] at e
    have el := congrArg List.length e
    simp only [List.length_append, List.flatten_cons] at el
    rw [lp_X7_givesAll_2, valuesOf_eq hr hFM hf, if_pos (by omega)]
    refine givesAll_lp1 (C := B ++ fV (F f) p) hr hF hf (by omega) (by omega) (by simp; omega) (fun M1 h1 => ?_) (fV (F f) p).length N 0 M B (by omega) (by omega) hB (by simp)
    simp (disch := omega) only [jL, jW_id]
    exact ih n (p + 1) M1 _ (by omega) (by omega) h1 (by simpa using e)
theorem msum_lp1 {M : jM} {r id K f v : Int} {F : rF} {C : List Int} {kx : Int → Prop} (hr : sRec r) (hF : RM M 253 (55 + 106 * r) id K F) (hf : sFld f) (v0 : 0 ≤ v) (v1 : v < fL (F f)) (hC : C.length ≤ 20) (hb : ∀ x ∈ C, -999 ≤ x ∧ x ≤ 999) (D : List Int) (H : kx (D ++ fV (F f) v).sum) : ∀ (d n p : Nat) (B E : List Int), d < n → p + d = (fV (F f) v).length → B ++ (fV (F f) v).drop p = D ++ fV (F f) v → B ++ (fV (F f) v).drop p ++ E = C → lp_X7_sumOf_19 252 r f v M kx n B.sum p := by
  have hsl : fS (F f) v = (fV (F f) v).length := rfl
  have hl := hF.len hf
  have hs := hF.sub hf v0 v1
  intro d
  induction d with
  | zero =>
    intro n p B E hn hp e0 e
    obtain ⟨n, rfl⟩ : ∃ m, n = m + 1 := ⟨n - 1, by omega⟩
    rw [lp_X7_sumOf_19, subsOf_eq hr hf (by omega), hs.1, if_neg (by omega)]
    rw [List.drop_of_length_le (by omega), List.append_nil] at e0
    rw [e0]
    exact H
  | succ d ih =>
    intro n p B E hn hp e0 e
    obtain ⟨n, rfl⟩ : ∃ m, n = m + 1 := ⟨n - 1, by omega⟩
    have hpl : p < (fV (F f) v).length := by omega
    rw [lp_X7_sumOf_19, subsOf_eq hr hf (by omega), hs.1, if_pos (by omega), mnum_eq hr hf (by omega) (by omega), (hF.num hf v0 v1 (w := (p : Int)) (by omega) (by omega)).1]
    rw [fN_drop hpl] at e e0
    have e2 : (B ++ [fN (F f) v p]) ++ (fV (F f) v).drop (p + 1) ++ E = C := by simpa using e
    have hlen : (B ++ [fN (F f) v p]).length ≤ C.length := by rw [← e2]; simp
    have hb2 := sum_bd2 (B := B ++ [fN (F f) v p]) (fun x hx => hb x (by rw [← e2]; simp only [List.mem_append] at hx ⊢; exact Or.inl (Or.inl hx)))
    have es : (B ++ [fN (F f) v p]).sum = B.sum + fN (F f) v p := by simp
    simp only [jL]
    rw [← es, jW_id (a := (B ++ [fN (F f) v p]).sum) (by omega), jW_id (by omega)]
    exact ih n (p + 1) _ E (by omega) (by omega) (by simpa using e0) e2
theorem msum_lp2 {N : Nat} {M : jM} {r id K f : Int} {F : rF} {kx : Int → Prop} (hN : 5000 ≤ N) (hr : sRec r) (hF : RM M 253 (55 + 106 * r) id K F) (hf : sFld f) (H : kx (F f).flatten.sum) : ∀ (d n p : Nat) (B : List Int), d < n → (p : Int) + d = fL (F f) → B ++ ((F f).drop p).flatten = (F f).flatten → lp_X7_sumOf_5 N 252 r f M kx n B.sum p := by
  have hl := hF.len hf
  have hfl := (hF.ok hf).flat
  intro d
  induction d with
  | zero =>
    intro n p B hn hp e
    obtain ⟨n, rfl⟩ : ∃ m, n = m + 1 := ⟨n - 1, by omega⟩
    rw [lp_X7_sumOf_5, valuesOf_eq hr hF hf, if_neg (by omega)]
    rw [List.drop_of_length_le (by unfold fL at hp; omega)] at e
    simp only [List.flatten_nil, List.append_nil] at e
    rw [e]
    exact H
  | succ d ih =>
    intro n p B hn hp e
    obtain ⟨n, rfl⟩ : ∃ m, n = m + 1 := ⟨n - 1, by omega⟩
    have hpl : p < (F f).length := by unfold fL at hp; omega
    have hs := hF.sub hf (v := (p : Int)) (by omega) (by omega)
    have hsl : fS (F f) (p : Int) = (fV (F f) p).length := rfl
    rw [fV_drop hpl] at e
    rw [lp_X7_sumOf_5, valuesOf_eq hr hF hf, if_pos (by omega)]
    refine msum_lp1 (C := (F f).flatten) hr hF hf (by omega) (by omega) hfl.1 hfl.2 B ?_ (fV (F f) p).length N 0 B (((F f).drop (p + 1)).flatten) (by omega) (by omega) (by simp) (by simpa using e)
    simp (disch := omega) only [jL, jW_id]
    exact ih n (p + 1) _ (by omega) (by omega) (by simpa using e)
theorem mgreat_lp1 {M : jM} {r id K f v : Int} {F : rF} {z : Int} {kx : Int → Prop} (hr : sRec r) (hF : RM M 253 (55 + 106 * r) id K F) (hf : sFld f) (v0 : 0 ≤ v) (v1 : v < fL (F f)) (H : kx z) : ∀ (d n p : Nat) (x : Int), d < n → p + d = (fV (F f) v).length → ((fV (F f) v).drop p).foldl jMax x = z → lp_X7_givesGreatest_25 252 r f v M kx n x p := by
  have hsl : fS (F f) v = (fV (F f) v).length := rfl
  have hl := hF.len hf
  have hs := hF.sub hf v0 v1
  intro d
  induction d with
  | zero =>
    intro n p x hn hp e
    obtain ⟨n, rfl⟩ : ∃ m, n = m + 1 := ⟨n - 1, by omega⟩
    rw [lp_X7_givesGreatest_25, subsOf_eq hr hf (by omega), hs.1, if_neg (by omega)]
    rw [List.drop_of_length_le (by omega)] at e
    have e : x = z := e
    rw [e]
    exact H
  | succ d ih =>
    intro n p x hn hp e
    obtain ⟨n, rfl⟩ : ∃ m, n = m + 1 := ⟨n - 1, by omega⟩
    have hpl : p < (fV (F f) v).length := by omega
    have hnum := (hF.num hf v0 v1 (w := (p : Int)) (by omega) (by omega)).1
    rw [lp_X7_givesGreatest_25, subsOf_eq hr hf (by omega), hs.1, if_pos (by omega), mnum_eq hr hf (by omega) (by omega), hnum, mnum_eq hr hf (by omega) (by omega), hnum]
    rw [fN_drop hpl] at e
    have e : ((fV (F f) v).drop (p + 1)).foldl jMax (jMax x (fN (F f) v p)) = z := e
    simp (disch := omega) only [jL, jW_id]
    by_cases q : fN (F f) v p ≤ x
    · rw [if_pos q]
      rw [show jMax x (fN (F f) v p) = x by unfold jMax; rw [if_neg (by omega)]] at e
      exact ih n (p + 1) _ (by omega) (by omega) e
    · rw [if_neg q]
      rw [show jMax x (fN (F f) v p) = fN (F f) v p by unfold jMax; rw [if_pos (by omega)]] at e
      exact ih n (p + 1) _ (by omega) (by omega) e
theorem mgreat_lp2 {N : Nat} {M0 : jM} {r id K f : Int} {F : rF} {C : List Int} {kx : jM → Prop} (hN : 5000 ≤ N) (hr : sRec r) (hF : RM M0 253 (55 + 106 * r) id K F) (hf : sFld f) (hC : C.length ≤ 20) (H : ∀ M', SM M0 M' C → kx M') : ∀ (d n p : Nat) (M : jM) (B : List Int), d < n → (p : Int) + d = fL (F f) → SM M0 M B → B ++ ((F f).drop p).map mxV = C → lp_X7_givesGreatest_2 N 252 r f kx n p M := by
  have hl := hF.len hf
  intro d
  induction d with
  | zero =>
    intro n p M B hn hp hB e
    obtain ⟨n, rfl⟩ : ∃ m, n = m + 1 := ⟨n - 1, by omega⟩
    have hFM := RM.sm hB hF
    rw [lp_X7_givesGreatest_2, valuesOf_eq hr hFM hf, if_neg (by omega)]
    rw [List.drop_of_length_le (by unfold fL at hp; omega)] at e
    simp at e
    exact H M (by rw [← e]; exact hB)
  | succ d ih =>
    intro n p M B hn hp hB e
    obtain ⟨n, rfl⟩ : ∃ m, n = m + 1 := ⟨n - 1, by omega⟩
    have hFM := RM.sm hB hF
    have hpl : p < (F f).length := by unfold fL at hp; omega
    have hs := hF.sub hf (v := (p : Int)) (by omega) (by omega)
    have hsl : fS (F f) (p : Int) = (fV (F f) p).length := rfl
    rw [fV_drop hpl] at e
    have el := congrArg List.length e
    simp only [List.length_append, List.map_cons, List.length_cons] at el
    rw [lp_X7_givesGreatest_2, valuesOf_eq hr hFM hf, if_pos (by omega), mnum_eq hr hf (by omega) (by omega), (hFM.num hf (v := (p : Int)) (w := 0) (by omega) (by omega) (by omega) (by omega)).1]
    have h0 := fN_drop (L := F f) (v := (p : Int)) (p := 0) (by omega)
    have emx : ((fV (F f) p).drop 1).foldl jMax (fN (F f) p ((0 : Nat) : Int)) = mxV (fV (F f) p) := by
      rw [List.drop_zero] at h0
      conv => rhs; rw [h0]
      rfl
    refine mgreat_lp1 hr hFM hf (by omega) (by omega) ?_ ((fV (F f) p).length - 1) N 1 _ (by omega) (by omega) emx
    refine gives_k hB (by omega) (fun M1 h1 => ?_)
    simp (disch := omega) only [jL, jW_id]
    exact ih n (p + 1) M1 _ (by omega) (by omega) h1 (by simpa using e)
theorem mprod_lp {M0 : jM} {r id K f g : Int} {F : rF} {kx : jM → Prop} (hr : sRec r) (hF : RM M0 253 (55 + 106 * r) id K F) (hf : sFld f) (hg : sFld g) (H : ∀ M', SM M0 M' (List.zipWith pHd (F f) (F g)) → kx M') : ∀ (d n p : Nat) (M : jM) (B : List Int), d < n → p + d = (List.zipWith pHd (F f) (F g)).length → SM M0 M B → B ++ (List.zipWith pHd (F f) (F g)).drop p = List.zipWith pHd (F f) (F g) → lp_X7_givesProducts_3 252 r f g kx n p M := by
  have hl := hF.len hf
  have hl2 := hF.len hg
  have hz : (List.zipWith pHd (F f) (F g)).length = min (F f).length (F g).length := List.length_zipWith
  have q1 : fL (F f) = ((F f).length : Nat) := rfl
  have q2 : fL (F g) = ((F g).length : Nat) := rfl
  intro d
  induction d with
  | zero =>
    intro n p M B hn hp hB e
    obtain ⟨n, rfl⟩ : ∃ m, n = m + 1 := ⟨n - 1, by omega⟩
    have hFM := RM.sm hB hF
    rw [lp_X7_givesProducts_3, mHasValue_eq hr hFM hf]
    simp only [b01, ite_not, mHasValue_eq hr hFM hg]
    rw [List.drop_of_length_le (by omega), List.append_nil] at e
    have hend : kx M := H M (by rw [← e]; exact hB)
    by_cases z : 0 ≤ (p : Int) ∧ (p : Int) < fL (F f)
    · rw [if_pos z, if_neg (by omega)]
      exact hend
    · rw [if_neg z]
      exact hend
  | succ d ih =>
    intro n p M B hn hp hB e
    obtain ⟨n, rfl⟩ : ∃ m, n = m + 1 := ⟨n - 1, by omega⟩
    have hFM := RM.sm hB hF
    have hpl : p < (List.zipWith pHd (F f) (F g)).length := by omega
    have s1 := hF.sub hf (v := (p : Int)) (by omega) (by omega)
    have s2 := hF.sub hg (v := (p : Int)) (by omega) (by omega)
    have n1 := hFM.num hf (v := (p : Int)) (w := 0) (by omega) (by omega) (by omega) (by omega)
    have n2 := hFM.num hg (v := (p : Int)) (w := 0) (by omega) (by omega) (by omega) (by omega)
    rw [lp_X7_givesProducts_3, mHasValue_eq hr hFM hf]
    simp only [b01, ite_not, mHasValue_eq hr hFM hg]
    rw [if_pos (by omega), if_pos (by omega), mnum_eq hr hf (by omega) (by omega), n1.1, mnum_eq hr hg (by omega) (by omega), n2.1]
    have hm := mul_bd n1.2 n2.2
    have ez : (List.zipWith pHd (F f) (F g))[p]? = some (fN (F f) p 0 * fN (F g) p 0) := by
      rw [List.getElem?_zipWith, List.getElem?_eq_getElem (by omega), List.getElem?_eq_getElem (by omega)]
      show some (pHd _ _) = _
      unfold fN fV
      simp [pHd, List.getD_eq_getElem?_getD, List.getElem?_eq_getElem (show p < (F f).length by omega), List.getElem?_eq_getElem (show p < (F g).length by omega)]
    rw [drop_at ez] at e
    have el := congrArg List.length e
    simp only [List.length_append, List.length_cons] at el
    rw [jW_id (by omega)]
    refine gives_k hB (by omega) (fun M1 h1 => ?_)
    simp (disch := omega) only [jL, jW_id]
    exact ih n (p + 1) M1 _ (by omega) (by omega) h1 (by simpa using e)
theorem MO.cok {M : jM} {s : aS} {O : List Int} {i : Nat} {id c : Int} (h : MO M 253 0 s O) (hi : O[i]? = some id) (hc : sCol c) : (colS s id c).length ≤ 20 ∧ ∀ x ∈ colS s id c, cBig x := by
  have hr := (h.rec hi).2.1
  have hk := h.1.2.2.2.2 c hc
  exact col_ok (hr.ok hk.2.2.1) (hr.ok hk.2.2.2)
theorem tells_k {N : Nat} {M : jM} {s : aS} {O : List Int} {i : Nat} {id c : Int} {k : Int → jM → Prop} (hN : 5000 ≤ N) (h : MO M 253 0 s O) (hi : O[i]? = some id) (hc : sCol c) (H : ∀ M', SM M M' (colS s id c) → k ((colS s id c).length : Int) M') : w_X7_tells N M 252 i c k := by
  have hcok := h.cok hi hc
  obtain ⟨hr, hR, -⟩ := h.rec hi
  unfold w_X7_tells
  have hC := h.col hc
  have hk := h.1.2.2.2.2 c hc
  simp only [jL]
  have c1 : ∀ y : Int, y ≠ 252 → jU M 252 11 0 y = M y := fun y hy => jU_row hy
  rw [ofColumn_eq hc (by omega), ofColumn_eq hc (by omega), c1 253 (by decide)]
  rw [show M 253 (5 + 3 * c + 1) = sC s c 1 by rw [← hC.2.1]; congr 1; omega, show M 253 (5 + 3 * c + 0) = sC s c 0 by rw [← hC.1]; congr 1; omega]
  have hB : SM M (jU M 252 11 0) [] := ⟨⟨fun y h1 h2 => c1 y h2, fun j hj => jU_in (by omega)⟩, fun y hy => c1 y (by omega), by simp [jU], fun j x hj => by simp at hj⟩
  have hRB := RM.sm hB hR
  have H2 : ∀ M', SM M M' (colS s id c) → k (M' 252 11) M' := fun M' h' => by rw [h'.2.2.1]; exact H M' h'
  unfold colS colN at H2
  have hl1 := hR.len hk.2.2.1
  have hfl := (hR.ok hk.2.2.1).flat
  by_cases k0 : sC s c 0 = 0
  · rw [if_pos k0] at H2 ⊢
    unfold w_X7_givesAll
    exact givesAll_lp2 hN hr hR hk.2.2.1 hfl.1 H2 (fL (sF s id (sC s c 1))).toNat N 0 (jU M 252 11 0) [] (by omega) (by omega) hB (by simp)
  · rw [if_neg k0] at H2 ⊢
    by_cases k1 : sC s c 0 = 1
    · rw [if_pos k1] at H2 ⊢
      rw [valuesOf_eq hr hRB hk.2.2.1]
      exact gives_k hB (by decide) H2
    · rw [if_neg k1] at H2 ⊢
      by_cases k2 : sC s c 0 = 2
      · rw [if_pos k2] at H2 ⊢
        unfold w_X7_sumOf
        have := msum_lp2 (N := N) (kx := fun x7 => w_X7_gives (jU M 252 11 0) 252 x7 (fun M8 => k (M8 252 11) M8)) hN hr hRB hk.2.2.1 (gives_k hB (by decide) H2) (fL (sF s id (sC s c 1))).toNat N 0 [] (by omega) (by omega) (by simp)
        exact this
      · rw [if_neg k2] at H2 ⊢
        by_cases k3 : sC s c 0 = 3
        · rw [if_pos k3] at H2 ⊢
          unfold w_X7_givesGreatest
          exact mgreat_lp2 hN hr hR hk.2.2.1 (by rw [List.length_map]; have := (hR.ok hk.2.2.1).1; omega) H2 (fL (sF s id (sC s c 1))).toNat N 0 (jU M 252 11 0) [] (by omega) (by omega) hB (by simp)
        · rw [if_neg k3] at H2 ⊢
          rw [ofColumn_eq hc (by omega), c1 253 (by decide), show M 253 (5 + 3 * c + 2) = sC s c 2 by rw [← hC.2.2]; congr 1; omega]
          unfold w_X7_givesProducts
          have hz : (List.zipWith pHd (sF s id (sC s c 1)) (sF s id (sC s c 2))).length ≤ 5 := by
            rw [List.length_zipWith]
            unfold fL at hl1
            omega
          exact mprod_lp hr hR hk.2.2.1 hk.2.2.2 H2 (List.zipWith pHd (sF s id (sC s c 1)) (sF s id (sC s c 2))).length N 0 (jU M 252 11 0) [] (by omega) (by omega) hB (by simp)
theorem ms_numbers {N : Nat} {M : jM} {a : aA} {id c : Int} {k : Int → jM → Prop} (hN : 5000 ≤ N) (hM : MR M a) (H : ∀ M', frM M M' → MR M' a → k (a_numbers a id c) M') : w_X7_numbers N M 252 id c k := by
  unfold w_X7_numbers
  obtain ⟨O, hO⟩ := MS_iff.mp hM.now
  unfold a_numbers at H
  refine placeOf_k (by omega) hO (fun i hi => ?_) (fun hn => ?_)
  · have hr := hO.rec hi
    rw [if_neg (by omega), isColumn_eq]
    simp only [b01, ite_not]
    by_cases hc : sCol c
    · rw [if_neg (fun z => z.elim (fun z => z hr.2.2) (fun z => z hc))] at H
      rw [if_pos hc]
      exact tells_k hN hO hi hc (fun M' h' => H M' h'.1.frM (hM.wf h'.1))
    · rw [if_pos (Or.inr hc)] at H
      rw [if_neg hc]
      exact H M wf.rfl.frM hM
  · rw [if_pos (Or.inl hn)] at H
    rw [if_pos (by omega)]
    exact H M wf.rfl.frM hM
theorem ms_numberAt {N : Nat} {M : jM} {a : aA} {id c p : Int} {k : Int → jM → Prop} (hN : 5000 ≤ N) (hM : MR M a) (H : ∀ M', frM M M' → MR M' a → k (a_numberAt a id c p) M') : w_X7_numberAt N M 252 id c p k := by
  unfold w_X7_numberAt
  obtain ⟨O, hO⟩ := MS_iff.mp hM.now
  unfold a_numberAt at H
  refine placeOf_k (by omega) hO (fun i hi => ?_) (fun hn => ?_)
  · have hr := hO.rec hi
    rw [if_neg (by omega), isColumn_eq]
    simp only [b01, ite_not]
    by_cases hc : sCol c
    · rw [if_neg (fun z => z.elim (fun z => z hr.2.2) (fun z => z hc))] at H
      rw [if_pos hc]
      by_cases hp : p < 0
      · rw [if_pos hp] at H ⊢
        exact H M wf.rfl.frM hM
      · rw [if_neg hp] at H ⊢
        refine tells_k hN hO hi hc (fun M' h' => ?_)
        have hlen := (hO.cok hi hc).1
        have H := H M' h'.1.frM (hM.wf h'.1)
        by_cases z : (colS (aNow a) id c).length ≤ p
        · rw [if_pos z] at H
          rw [if_neg (by omega)]
          exact H
        · rw [if_neg z] at H
          rw [if_pos (by omega)]
          have e : (colS (aNow a) id c)[p.toNat]? = some ((colS (aNow a) id c).getD p.toNat 0) := by
            rw [List.getD_eq_getElem?_getD, List.getElem?_eq_getElem (by omega)]
            rfl
          have := h'.2.2.2 _ _ e
          rw [Int.toNat_of_nonneg (by omega)] at this
          simp only [Int.reduceAdd]
          rw [this]
          exact ⟨by omega, H⟩
    · rw [if_pos (Or.inr hc)] at H
      rw [if_neg hc]
      exact H M wf.rfl.frM hM
  · rw [if_pos (Or.inl hn)] at H
    rw [if_pos (by omega)]
    exact H M wf.rfl.frM hM
