/-! associate, define, combine, clearList of the reference -/
theorem setA_MO {M : jM} {s : aS} {O : List Int} {f v : Int} (h : MO M 253 0 s O) (hf : sFld f) (hv : v = 0 ∨ v = 1) : MO (jU M 253 (1 + f) v) 253 0 (setA s f v) O := by
  have hlen := h.len
  obtain ⟨h1, h2, h3, h4, h5, h6, h7⟩ := h
  refine ⟨⟨h1.1, h1.2.1, h1.2.2.1, fun g hg => ?_, h1.2.2.2.2⟩, by rw [jU_in (by omega)]; exact h2, h3, fun i x hi => (h4 i x hi).move (fun j j0 j1 => jU_in (by omega)), fun g hg => ?_, fun q hq => by rw [jU_in (by omega), jU_in (by omega), jU_in (by omega)]; exact h6 q hq, fun l w hl w0 w1 => by rw [jU_in (by omega)]; exact h7 l w hl w0 w1⟩
  · show uI (sA s) f v g = 0 ∨ uI (sA s) f v g = 1
    by_cases e : g = f
    · rw [e, uI_self]; exact hv
    · rw [uI_ne e]; exact h1.2.2.2.1 g hg
  · show jU M 253 (1 + f) v 253 (0 + 1 + g) = uI (sA s) f v g
    by_cases e : g = f
    · rw [e, uI_self]; simp [jU]
    · rw [uI_ne e, jU_in (by omega)]; exact h5 g hg
theorem ms_associate {N : Nat} {M : jM} {a : aA} {f v : Int} {k : Int → jM → Prop} (hN : 5000 ≤ N) (hM : MR M a) (hv : v = 0 ∨ v = 1) (H : ∀ M', frM M M' → MR M' (a_associate a f v).2 → k (a_associate a f v).1 M') : w_X7_associate N M 252 f v k := by
  unfold w_X7_associate
  refine msBegin_k hN hM (fun M1 h1 hB f1 => ?_)
  have hS := h1.now
  obtain ⟨O, hO⟩ := MS_iff.mp hS
  unfold a_associate at H
  have fx : frM M M1 := fun c hc => f1 c (by omega)
  unfold w_X7_goAssociate
  rw [isField_eq]
  simp only [b01, ite_not]
  by_cases hf : sFld f
  · rw [if_neg (not_not_intro hf)] at H
    rw [if_pos hf, jW_id (by omega)]
    simp only [Int.reduceAdd, jL]
    have ev : ∀ (j : Int → Prop), j v → (if v = 0 then j 0 else j 1) := fun j hj => by
      rcases hv with rfl | rfl
      · rw [if_pos rfl]; exact hj
      · rw [if_neg (by decide)]; exact hj
    refine ev (fun x2 => jB (1 + f) 1115 ∧ (jB 1 1115 ∧ (jB 2 1115 ∧ (jB 3 1115 ∧ (jB 4 1115 ∧ (w_X7_keeps N (jU M1 253 (1 + f) x2) 252 (jW ((jW ((jW ((jU M1 253 (1 + f) x2 253 1) + (jU M1 253 (1 + f) x2 253 2))) + (jU M1 253 (1 + f) x2 253 3))) + (jU M1 253 (1 + f) x2 253 4))) (fun x4 M5 => (k x4 M5)))))))) ?_
    have hO2 := setA_MO hO hf hv
    have g0 := hO2.ass (f := 0) (by decide)
    have g1 := hO2.ass (f := 1) (by decide)
    have g2 := hO2.ass (f := 2) (by decide)
    have g3 := hO2.ass (f := 3) (by decide)
    simp only [Int.reduceAdd] at g0 g1 g2 g3
    refine ⟨by omega, by omega, by omega, by omega, by omega, ?_⟩
    rw [g0.1, g1.1, g2.1, g3.1, jW_id (a := sA (setA (aNow a) f v) 0 + sA (setA (aNow a) f v) 1) (by omega), jW_id (a := sA (setA (aNow a) f v) 0 + sA (setA (aNow a) f v) 1 + sA (setA (aNow a) f v) 2) (by omega), jW_id (by omega)]
    exact msKeep_k hN h1 hB (mfr.of (fun c hc => jU_row hc)) (MS_iff.mpr ⟨_, hO2⟩) (by omega) (fun M' f' hM' => H M' (fun c hc => by rw [f' c hc, fx c hc]) hM')
  · rw [if_pos hf] at H
    rw [if_neg hf]
    exact keepsNo_k (by omega) (H M1 fx h1)
theorem setC_MO {M M' : jM} {s : aS} {O : List Int} {c x f g : Int} (h : MO M 253 0 s O) (hc : sCol c) (hx : 0 ≤ x ∧ x ≤ 4) (hf : sFld f) (hg : sFld g) (e0 : M' 253 (5 + 3 * c) = x) (e1 : M' 253 (6 + 3 * c) = f) (e2 : M' 253 (7 + 3 * c) = g) (e : ∀ j : Int, j < 5 + 3 * c ∨ 8 + 3 * c ≤ j → M' 253 j = M 253 j) : MO M' 253 0 (setC s c x f g) O := by
  have hlen := h.len
  obtain ⟨h1, h2, h3, h4, h5, h6, h7⟩ := h
  have s0 : ∀ w, sC (setC s c x f g) c w = if w = 0 then x else if w = 1 then f else g := fun w => congrFun (uI_self (sC s) c _) w
  have sn : ∀ q, q ≠ c → sC (setC s c x f g) q = sC s q := fun q hq => uI_ne hq
  refine ⟨⟨h1.1, h1.2.1, h1.2.2.1, h1.2.2.2.1, fun q hq => ?_⟩, by rw [e _ (by omega)]; exact h2, h3, fun i y hi => (h4 i y hi).move (fun j j0 j1 => e _ (by omega)), fun q hq => by rw [e _ (by omega)]; exact h5 q hq, fun q hq => ?_, fun l w hl w0 w1 => by rw [e _ (by omega)]; exact h7 l w hl w0 w1⟩
  · by_cases z : q = c
    · subst z
      rw [s0, s0, s0, if_pos rfl, if_neg (by decide), if_pos rfl, if_neg (by decide), if_neg (by decide)]
      exact ⟨hx.1, hx.2, hf, hg⟩
    · rw [sn q z]
      exact h1.2.2.2.2 q hq
  · by_cases z : q = c
    · subst z
      rw [s0, s0, s0, if_pos rfl, if_neg (by decide), if_pos rfl, if_neg (by decide), if_neg (by decide)]
      simp only [Int.zero_add]
      exact ⟨e0, e1, e2⟩
    · rw [sn q z, e _ (by omega), e _ (by omega), e _ (by omega)]
      exact h6 q hq
theorem ms_define {N : Nat} {M : jM} {a : aA} {c x f g : Int} {k : Int → jM → Prop} (hN : 5000 ≤ N) (hM : MR M a) (H : ∀ M', frM M M' → MR M' (a_define a c x f g).2 → k (a_define a c x f g).1 M') : w_X7_define N M 252 c x f g k := by
  unfold w_X7_define
  refine msBegin_k hN hM (fun M1 h1 hB f1 => ?_)
  have hS := h1.now
  obtain ⟨O, hO⟩ := MS_iff.mp hS
  unfold a_define at H
  have fx : frM M M1 := fun c hc => f1 c (by omega)
  unfold w_X7_goDefine
  rw [isColumn_eq]
  simp only [b01, ite_not, isField_eq, in_eq]
  by_cases hc : sCol c
  · rw [if_pos hc]
    by_cases hf : sFld f
    · rw [if_pos hf]
      by_cases hg : sFld g
      · rw [if_pos hg]
        rw [if_neg (fun z => z.elim (fun z => z hc) (fun z => z.elim (fun z => z hf) (fun z => z hg)))] at H
        by_cases hx : 0 ≤ x ∧ x ≤ 4
        · rw [if_neg (not_not_intro hx)] at H
          rw [if_pos hx, ofColumn_eq hc (by omega)]
          have hcol := hO.col hc
          have hok := hO.1.2.2.2.2 c hc
          simp only [Int.reduceAdd, Int.add_zero, jL]
          rw [hcol.1, jW_id (a := 3 * c) (by omega), jW_id (a := 5 + 3 * c) (by omega), jW_id (a := 5 + 3 * c + 1) (by omega), jW_id (a := 5 + 3 * c + 2) (by omega)]
          refine ⟨by omega, by omega, by omega, ?_⟩
          have hO2 : MO (jU (jU (jU M1 253 (5 + 3 * c) x) 253 (5 + 3 * c + 1) f) 253 (5 + 3 * c + 2) g) 253 0 (setC (aNow a) c x f g) O := by
            refine setC_MO hO hc hx hf hg ?_ ?_ ?_ (fun j hj => ?_)
            · rw [jU_in (by omega), jU_in (by omega)]; simp [jU]
            · rw [jU_in (by omega), show 6 + 3 * c = 5 + 3 * c + 1 by omega]; simp [jU]
            · rw [show 7 + 3 * c = 5 + 3 * c + 2 by omega]; simp [jU]
            · rw [jU_in (by omega), jU_in (by omega), jU_in (by omega)]
          exact msKeep_k hN h1 hB (mfr.of (fun q hq => by rw [jU_row hq, jU_row hq, jU_row hq])) (MS_iff.mpr ⟨_, hO2⟩) (by omega) (fun M' f' hM' => H M' (fun q hq => by rw [f' q hq, fx q hq]) hM')
        · rw [if_pos hx] at H
          rw [if_neg hx]
          exact keepsNo_k (by omega) (H M1 fx h1)
      · rw [if_pos (Or.inr (Or.inr hg))] at H
        rw [if_neg hg]
        exact keepsNo_k (by omega) (H M1 fx h1)
    · rw [if_pos (Or.inr (Or.inl hf))] at H
      rw [if_neg hf]
      exact keepsNo_k (by omega) (H M1 fx h1)
  · rw [if_pos (Or.inl hc)] at H
    rw [if_neg hc]
    exact keepsNo_k (by omega) (H M1 fx h1)
/-- the first p places of a list as G has them, the others as they were -/
def mixL (g G : Int → Bool) (p : Int) : Int → Bool := fun i => if i < p then G i else g i
theorem mixL_next {g G : Int → Bool} {p : Int} : uI (mixL g G p) p (G p) = mixL g G (p + 1) := by
  funext i
  simp only [uI, mixL]
  by_cases h : i = p
  · rw [if_pos h, if_pos (by omega), h]
  · rw [if_neg h]
    by_cases h2 : i < p
    · rw [if_pos h2, if_pos (by omega)]
    · rw [if_neg h2, if_neg (by omega)]
theorem setL_at {s : aS} {l : Int} {g : Int → Bool} : sL (setL s l g) l = g := uI_self _ _ _
theorem mixL_at {s : aS} {l f i : Int} {G : Int → Bool} : sL (setL s l (mixL (sL s l) G i)) f i = sL s f i := by
  by_cases e : f = l
  · rw [e, setL_at]
    unfold mixL
    rw [if_neg (by omega)]
  · exact congrFun (uI_ne (g := sL s) e) i
theorem mcomb_lp {M : jM} {s : aS} {O : List Int} {h f g l : Int} {kx : jM → Prop} (hh : 0 ≤ h ∧ h ≤ 2) (hf : sLst f) (hg : sLst g) (hl : sLst l) (G : Int → Bool) (hG : ∀ i, G i = if h = 0 then sL s f i && sL s g i else if h = 1 then sL s f i || sL s g i else sL s f i && !sL s g i)
    (H : ∀ M', (∀ c : Int, c ≠ 253 → M' c = M c) → MO M' 253 0 (setL s l G) O → kx M') : ∀ (d n p : Nat) (M1 : jM), d < n → p + d = 100 → (∀ c : Int, c ≠ 253 → M1 c = M c) → MO M1 253 0 (setL s l (mixL (sL s l) G p)) O → lp_X7_goCombine_40 252 h f g l kx n p M1 := by
  intro d
  induction d with
  | zero =>
    intro n p M1 hn hp hr hO
    obtain ⟨n, rfl⟩ : ∃ m, n = m + 1 := ⟨n - 1, by omega⟩
    rw [lp_X7_goCombine_40, if_neg (by omega)]
    refine H M1 hr (hO.lcong (fun i i0 i1 => ?_))
    unfold mixL
    rw [if_pos (by omega)]
  | succ d ih =>
    intro n p M1 hn hp hr hO
    obtain ⟨n, rfl⟩ : ∃ m, n = m + 1 := ⟨n - 1, by omega⟩
    rw [lp_X7_goCombine_40, if_pos (by omega), isIn_eq hO hf (by omega) (by omega), isIn_eq hO hg (by omega) (by omega), mixL_at, mixL_at]
    simp (disch := omega) only [jL, jW_id]
    have go : ∀ v : Bool, G p = v → w_X7_laysIn M1 252 l p (bI v) (fun M11 => lp_X7_goCombine_40 252 h f g l kx n (p + 1) M11) := fun v hv => by
      refine laysIn_k hO hl (by omega) (by omega) (fun M' f' hM' => ?_)
      refine ih n (p + 1) M' (by omega) (by omega) (fun c hc => by rw [f' c hc, hr c hc]) ?_
      rw [setL_at, setL_set, ← hv, mixL_next] at hM'
      exact hM'
    have hGp := hG p
    have g1 := go true
    have g0 := go false
    rcases (by omega : h = 0 ∨ h = 1 ∨ h = 2) with rfl | rfl | rfl
    · cases a : sL s f p <;> cases b : sL s g p <;> simp [a, b, bI] at hGp g0 g1 ⊢ <;> simp_all
    · cases a : sL s f p <;> cases b : sL s g p <;> simp [a, b, bI] at hGp g0 g1 ⊢ <;> simp_all
    · cases a : sL s f p <;> cases b : sL s g p <;> simp [a, b, bI] at hGp g0 g1 ⊢ <;> simp_all
theorem nList_nn (s : aS) (l : Int) : 0 ≤ nList s l := by unfold nList; omega
theorem ms_combine {N : Nat} {M : jM} {a : aA} {h f g l : Int} {k : Int → jM → Prop} (hN : 5000 ≤ N) (hM : MR M a) (H : ∀ M', frM M M' → MR M' (a_combine a h f g l).2 → k (a_combine a h f g l).1 M') : w_X7_combine N M 252 h f g l k := by
  unfold w_X7_combine
  refine msBegin_k hN hM (fun M1 h1 hB f1 => ?_)
  have hS := h1.now
  obtain ⟨O, hO⟩ := MS_iff.mp hS
  unfold a_combine at H
  have fx : frM M M1 := fun c hc => f1 c (by omega)
  unfold w_X7_goCombine
  simp only [isList_eq, b01, ite_not, in_eq]
  by_cases hf : sLst f
  · rw [if_pos hf]
    by_cases hg : sLst g
    · rw [if_pos hg]
      by_cases hl : sLst l
      · rw [if_pos hl]
        rw [if_neg (fun z => z.elim (fun z => z hf) (fun z => z.elim (fun z => z hg) (fun z => z hl)))] at H
        by_cases hh : 0 ≤ h ∧ h ≤ 2
        · rw [if_neg (not_not_intro hh)] at H
          rw [if_pos hh]
          refine mcomb_lp (M := M1) (s := aNow a) (O := O) hh hf hg hl _ (fun i => rfl) (fun M2 f2 hO2 => ?_) 100 N 0 M1 (by omega) (by omega) (fun _ _ => rfl) ?_
          · refine sizeOf_k hN hO2 hl ?_
            have hnn := nList_nn (setL (aNow a) l (fun i => if h = 0 then sL (aNow a) f i && sL (aNow a) g i else if h = 1 then sL (aNow a) f i || sL (aNow a) g i else sL (aNow a) f i && !sL (aNow a) g i)) l
            exact msKeep_k hN h1 hB (mfr.of f2) (MS_iff.mpr ⟨_, hO2⟩) (by omega) (fun M' f' hM' => H M' (fun q hq => by rw [f' q hq, fx q hq]) hM')
          · have e : setL (aNow a) l (sL (aNow a) l) = aNow a := by
              show (sI (aNow a), sK (aNow a), sF (aNow a), sA (aNow a), sC (aNow a), uI (sL (aNow a)) l (sL (aNow a) l)) = _
              have : uI (sL (aNow a)) l (sL (aNow a) l) = sL (aNow a) := by
                funext j
                simp only [uI]
                split
                · next q => rw [q]
                · rfl
              rw [this]
              rfl
            refine MO.lcong (g := sL (aNow a) l) (by rw [e]; exact hO) (fun i i0 i1 => ?_)
            unfold mixL
            rw [if_neg (by omega)]
        · rw [if_pos hh] at H
          rw [if_neg hh]
          exact keepsNo_k (by omega) (H M1 fx h1)
      · rw [if_pos (Or.inr (Or.inr hl))] at H
        rw [if_neg hl]
        exact keepsNo_k (by omega) (H M1 fx h1)
    · rw [if_pos (Or.inr (Or.inl hg))] at H
      rw [if_neg hg]
      exact keepsNo_k (by omega) (H M1 fx h1)
  · rw [if_pos (Or.inl hf)] at H
    rw [if_neg hf]
    exact keepsNo_k (by omega) (H M1 fx h1)
def clW (M : jM) (l p : Int) : jM := fun c i => if c = 253 ∧ 23 + 4 * l ≤ i ∧ i < 23 + 4 * l + p then 0 else M c i
theorem goClear_lp {M : jM} {l : Int} {kx : jM → Prop} (hl : sLst l) (H : kx (clW M l 4)) : ∀ (d n p : Nat), d < n → p + d = 4 → lp_X7_goClear_18 252 l kx n p (clW M l p) := by
  intro d
  induction d with
  | zero =>
    intro n p hn hp
    obtain ⟨n, rfl⟩ : ∃ m, n = m + 1 := ⟨n - 1, by omega⟩
    have : p = 4 := by omega
    subst this
    rw [lp_X7_goClear_18, if_neg (by omega)]
    exact H
  | succ d ih =>
    intro n p hn hp
    obtain ⟨n, rfl⟩ : ∃ m, n = m + 1 := ⟨n - 1, by omega⟩
    have ih := ih n (p + 1) (by omega) (by omega)
    rw [lp_X7_goClear_18, if_pos (by omega), jW_id (a := 4 * l) (by omega), jW_id (a := 23 + 4 * l) (by omega), jW_id (a := 23 + 4 * l + p) (by omega)]
    simp (disch := omega) only [jL, jW_id, Int.reduceAdd]
    have e : jU (clW M l p) 253 (23 + 4 * l + p) 0 = clW M l ((p + 1 : Nat) : Int) := by
      funext c i
      simp only [jU, clW]
      grind (splits := 20)
    rw [e]
    exact ⟨by omega, ih⟩
theorem clW_MO {M : jM} {s : aS} {O : List Int} {l : Int} (h : MO M 253 0 s O) (hl : sLst l) : MO (clW M l 4) 253 0 (setL s l (fun _ => false)) O := by
  have hlen := h.len
  have out : ∀ j : Int, (j < 23 + 4 * l ∨ 27 + 4 * l ≤ j) → clW M l 4 253 j = M 253 j := fun j hj => by
    unfold clW
    rw [if_neg (by omega)]
  obtain ⟨h1, h2, h3, h4, h5, h6, h7⟩ := h
  refine ⟨h1, by rw [out _ (by omega)]; exact h2, h3, fun i x hi => (h4 i x hi).move (fun j j0 j1 => out _ (by omega)), fun f hf => by rw [out _ (by omega)]; exact h5 f hf, fun q hq => by rw [out _ (by omega), out _ (by omega), out _ (by omega)]; exact h6 q hq, fun l' w hl' w0 w1 => ?_⟩
  by_cases e : l' = l
  · subst e
    refine ⟨0, ?_, by omega, fun i i0 i1 => ?_⟩
    · unfold clW
      rw [if_pos (by omega)]
      rfl
    · rw [Nat.zero_testBit]
      exact (congrFun (uI_self (sL s) l' (fun _ => false)) _).symm
  · obtain ⟨n, a1, a2, a3⟩ := h7 l' w hl' w0 w1
    refine ⟨n, by rw [out _ (by omega)]; exact a1, a2, fun i i0 i1 => ?_⟩
    rw [a3 i i0 i1]
    exact (congrFun (uI_ne (g := sL s) (v := fun _ => false) e) _).symm
theorem ms_clearList {N : Nat} {M : jM} {a : aA} {l : Int} {k : Int → jM → Prop} (hN : 5000 ≤ N) (hM : MR M a) (H : ∀ M', frM M M' → MR M' (a_clearList a l).2 → k (a_clearList a l).1 M') : w_X7_clearList N M 252 l k := by
  unfold w_X7_clearList
  refine msBegin_k hN hM (fun M1 h1 hB f1 => ?_)
  have hS := h1.now
  obtain ⟨O, hO⟩ := MS_iff.mp hS
  unfold a_clearList at H
  have fx : frM M M1 := fun c hc => f1 c (by omega)
  unfold w_X7_goClear
  simp only [isList_eq, b01, ite_not]
  by_cases hl : sLst l
  · rw [if_neg (not_not_intro hl)] at H
    rw [if_pos hl]
    refine sizeOf_k hN hO hl ?_
    have e0 : clW M1 l ((0 : Nat) : Int) = M1 := by
      funext c i
      unfold clW
      rw [if_neg (by omega)]
    have := goClear_lp (M := M1) (kx := fun (M5 : jM) => w_X7_keeps N M5 252 (nList (aNow a) l) (fun x4 M5 => (k x4 M5))) hl ?_ 4 N 0 (by omega) (by omega)
    · rw [e0] at this
      exact this
    · have hnn := nList_nn (aNow a) l
      refine msKeep_k hN h1 hB (mfr.of (fun c hc => ?_)) (MS_iff.mpr ⟨_, clW_MO hO hl⟩) (by omega) (fun M' f' hM' => H M' (fun q hq => by rw [f' q hq, fx q hq]) hM')
      funext i
      unfold clW
      rw [if_neg (by omega)]
  · rw [if_pos hl] at H
    rw [if_neg hl]
    exact keepsNo_k (by omega) (H M1 fx h1)
