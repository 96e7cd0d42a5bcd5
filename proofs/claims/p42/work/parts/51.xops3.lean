def nl (s : aS) (id p : Int) : Nat → Int
  | 0 => 0
  | q + 1 => nl s id p q + (if sHas s id p q then 1 else 0)
theorem nl_4 (s : aS) (id p : Int) : nl s id p 4 = nLine s id p := by
  show 0 + _ + _ + _ + _ = nLine s id p
  unfold nLine
  simp only [Int.zero_add]
  rfl
def dF (s : aS) (id p : Int) (q : Int) : Int → List (List Int) := fun f => if 0 ≤ f ∧ f < q ∧ sHas s id p f then fDelV (sF s id f) p else sF s id f
theorem dF_next {s : aS} {id p q : Int} (hq : 0 ≤ q) (h : sHas s id p q) : uI (dF s id p q) q (fDelV (dF s id p q q) p) = dF s id p (q + 1) := by
  funext f
  unfold uI dF
  by_cases e : f = q
  · subst e
    rw [if_pos rfl, if_neg (by omega), if_pos ⟨hq, by omega, h⟩]
  · rw [if_neg e]
    by_cases e2 : 0 ≤ f ∧ f < q ∧ sHas s id p f
    · rw [if_pos e2, if_pos ⟨e2.1, by omega, e2.2.2⟩]
    · rw [if_neg e2, if_neg (fun z => e2 ⟨z.1, by omega, z.2.2⟩)]
theorem dF_skip {s : aS} {id p q : Int} (h : ¬ sHas s id p q) : dF s id p q = dF s id p (q + 1) := by
  funext f
  unfold dF
  by_cases e2 : 0 ≤ f ∧ f < q ∧ sHas s id p f
  · rw [if_pos e2, if_pos ⟨e2.1, by omega, e2.2.2⟩]
  · rw [if_neg e2, if_neg (fun z => e2 ⟨z.1, by have : f ≠ q := fun y => h (y ▸ z.2.2); omega, z.2.2⟩)]
theorem removeLine_lp {N : Nat} {M1 : jM} {s : aS} {id p r : Int} {kx : Int → jM → Prop} (hN : 200 ≤ N) (hrr : 3 ≤ r ∧ r ≤ 39) (ha : ∀ f : Int, sFld f → M1 43 f = sA s f ∧ (sA s f = 0 ∨ sA s f = 1)) (h : ∀ M2, (∀ c : Int, (c < r + 1 ∨ r + 4 ≤ c) → M2 c = M1 c) → RF M2 r (dF s id p 4) → kx (nLine s id p) M2) :
    ∀ (d n q : Nat) (M2 : jM), d < n → q + d = 4 → (∀ c : Int, (c < r + 1 ∨ r + 4 ≤ c) → M2 c = M1 c) → RF M2 r (dF s id p q) → 0 ≤ nl s id p q ∧ nl s id p q ≤ q → lp_X6_removeLine_65 N 0 p r kx n (nl s id p q) q M2 := by
  intro d
  induction d with
  | zero =>
    intro n q M2 hn hq e hF hb
    obtain ⟨n, rfl⟩ : ∃ m, n = m + 1 := ⟨n - 1, by omega⟩
    have : q = 4 := by omega
    subst this
    rw [lp_X6_removeLine_65, if_neg (by omega), nl_4]
    exact h M2 e hF
  | succ d ih =>
    intro n q M2 hn hq e hF hb
    obtain ⟨n, rfl⟩ : ∃ m, n = m + 1 := ⟨n - 1, by omega⟩
    have hf : sFld (q : Int) := by omega
    rw [lp_X6_removeLine_65, if_pos (by omega)]
    simp only [Int.reduceAdd, hasValue_eq hF]
    rw [e 43 (by omega), (ha q hf).1]
    have e0 : dF s id p q q = sF s id q := by unfold dF; rw [if_neg (by omega)]
    have en : nl s id p (q + 1) = nl s id p q + (if sHas s id p q then 1 else 0) := rfl
    simp (disch := omega) only [jL, jW_id]
    refine ⟨by omega, ?_⟩
    rw [e0]
    by_cases hs : sHas s id p q
    · rw [if_neg (by have := hs.1; omega), if_neg (by rw [if_pos ⟨hf, hs.2⟩]; omega)]
      have hl := hF.len hf
      rw [e0] at hl
      refine dropValue_eq (by omega) hf hs.2.1 hl.1 hs.2.2 (by omega) ?_
      have hF2 := delC_RF hF hf hs.2.1 (by rw [e0]; exact hs.2.2)
      rw [dF_next (by omega) hs, e0] at hF2
      rw [if_pos hs] at en
      have := ih n (q + 1) _ (by omega) (by omega) (fun c hc => by rw [delC_row (by omega) (by omega) (by omega)]; exact e c hc) hF2 (by omega)
      rw [en] at this
      exact this
    · rw [if_neg hs] at en
      rw [dF_skip hs] at hF
      have := ih n (q + 1) M2 (by omega) (by omega) e hF (by omega)
      rw [en, Int.add_zero] at this
      by_cases h0 : sA s q = 0
      · rw [if_pos h0]
        exact this
      · rw [if_neg h0, if_pos (by rw [if_neg]; intro z; exact hs ⟨by have := (ha q hf).2; omega, z.2⟩)]
        exact this
theorem nLine_lines {s : aS} {id p : Int} (ha : ∀ f : Int, sFld f → sA s f = 0 ∨ sA s f = 1) : (0 ≤ p ∧ p < nLines s id) ↔ nLine s id p ≠ 0 := by
  have a0 := ha 0 (by decide)
  have a1 := ha 1 (by decide)
  have a2 := ha 2 (by decide)
  have a3 := ha 3 (by decide)
  have l : ∀ f, 0 ≤ fL (sF s id f) := fun f => by unfold fL; omega
  have l0 := l 0
  have l1 := l 1
  have l2 := l 2
  have l3 := l 3
  unfold nLines nLine lineL sHas
  rcases a0 with e0 | e0 <;> rcases a1 with e1 | e1 <;> rcases a2 with e2 | e2 <;> rcases a3 with e3 | e3 <;> omega
theorem xs_removeLine {N : Nat} {M : jM} {a : aA} {u id p : Int} {k : Int → jM → Prop} (hN : 200 ≤ N) (hX : XR M a) (H : ∀ M', frX M M' → XR M' (a_removeLine a u id p).2 → k (a_removeLine a u id p).1 M') : w_X6_removeLine N M 0 u id p k := by
  unfold w_X6_removeLine
  simp only [Int.reduceAdd, isBelow_eq, b01, ite_not]
  unfold a_removeLine at H
  refine hX.find_k (by omega) (fun i r hi r0 r1 r2 hr => ?_) (fun hn => ?_)
  · have hm := List.mem_of_getElem? hi
    rw [if_neg (by omega : ¬ r < 0)]
    have hlin := nLine_lines (s := aNow a) (id := id) (p := p) hX.now.1.2.2.2.1
    by_cases h1 : sUsr u
    · rw [if_pos h1]
      rw [if_neg (fun z => z.elim (fun z => z h1) (fun z => z hm))] at H
      have hno : nLine (aNow a) id p = 0 → k (-1000001) M := fun z => by rw [if_pos z] at H; exact H M fr0 hX
      by_cases h2 : p < 0
      · rw [if_pos h2]
        exact hno (by rcases Decidable.em (nLine (aNow a) id p = 0) with z | z; exact z; have := hlin.mpr z; omega)
      · rw [if_neg h2]
        refine lineCount_k (by omega) hX.now hr ?_
        by_cases h3 : p < nLines (aNow a) id
        · rw [if_pos h3]
          rw [if_neg (hlin.mp ⟨by omega, h3⟩)] at H
          rw [isOpenTo_eq hr]
          simp only [b01, ite_not]
          by_cases h4 : sOpen (aNow a) u id
          · rw [if_pos h4]
            rw [if_neg (not_not_intro h4)] at H
            refine remember_k (by omega) hX (fun M1 f1 hX1 => ?_)
            have hF1 : RF M1 r (sF (aNow a) id) := hr.2.2.2.congr (f1 _ (by omega)) (f1 _ (by omega)) (f1 _ (by omega))
            have d0 : dF (aNow a) id p ((0 : Nat) : Int) = sF (aNow a) id := by
              funext f
              unfold dF
              rw [if_neg (by omega)]
            refine removeLine_lp (M1 := M1) (s := aNow a) (id := id) hN ⟨r1, r2⟩ (fun f hf => hX1.now.ass hf) (fun M2 e hF => ?_) 4 N 0 M1 (by omega) (by omega) (fun _ _ => rfl) (by rw [d0]; exact hF1) (by simp [nl])
            refine H M2 (fun c hc => by rw [e c (by omega), f1 c (by omega)]) ?_
            refine hX1.act (n' := setFs (aNow a) id _) hi (by rw [f1 2 (by omega)]; exact r0) ⟨r1, r2⟩ (fun c hc => e c (by omega)) ?_ rfl (fun _ _ => rfl) (fun j hj => uI_ne hj) rfl rfl rfl
            refine ⟨by rw [e r (by omega), f1 r (by omega)]; exact hr.1, by rw [e r (by omega), f1 r (by omega)]; exact hr.2.1, hr.2.2.1, ?_⟩
            show RF M2 r (uI (sF (aNow a)) id _ id)
            rw [uI_self]
            exact hF
          · rw [if_neg h4]
            rw [if_pos h4] at H
            exact H M fr0 hX
        · rw [if_neg h3]
          exact hno (by rcases Decidable.em (nLine (aNow a) id p = 0) with z | z; exact z; have := hlin.mpr z; omega)
    · rw [if_neg h1]
      rw [if_pos (Or.inl h1)] at H
      exact H M fr0 hX
  · rw [if_pos (Or.inr hn)] at H
    rw [if_pos (by omega : (-1 : Int) < 0), ite_self]
    exact H M fr0 hX
theorem XS.setAss {M : jM} {b f v : Int} {s : aS} (h : XS M b s) (hf : sFld f) (hv : v = 0 ∨ v = 1) : XS (jU M (b + 42) f v) b (setA s f v) := by
  have e : ∀ y : Int, y ≠ b + 42 → jU M (b + 42) f v y = M y := fun y a1 => jU_row a1
  refine ⟨⟨h.1.1, h.1.2.1, h.1.2.2.1, fun g hg => ?_, h.1.2.2.2.2⟩, by rw [e _ (by omega)]; exact h.2.1, fun i h0 h1 => by rw [e _ (by omega)]; exact h.ref h0 h1, fun i j h0 h1 h2 h3 => by rw [e _ (by omega)]; exact h.inj h0 h1 h2 h3, fun i id hi => ?_, fun g hg => ?_, fun d hd => by rw [e _ (by omega), e _ (by omega), e _ (by omega)]; exact h.col hd, fun m i hm h0 h1 => by rw [e _ (by omega)]; exact h.lst hm h0 h1⟩
  · show uI (sA s) f v g = 0 ∨ uI (sA s) f v g = 1
    by_cases z : g = f
    · rw [z, uI_self]; exact hv
    · rw [uI_ne z]; exact h.1.2.2.2.1 g hg
  · have hi : (sI s)[i]? = some id := hi
    have := h.lt hi
    have hr := h.in (i := i) (by omega) (by omega)
    rw [e (b + 1) (by omega)]
    exact (h.rec hi).congr (e _ (by omega)) (e _ (by omega)) (e _ (by omega)) (e _ (by omega))
  · show _ = uI (sA s) f v g
    by_cases z : g = f
    · rw [z, uI_self]; simp [jU]
    · rw [uI_ne z]
      simp only [jU]
      rw [if_neg (fun y => z y.2)]
      exact h.2.2.2.2.2.1 g hg
theorem xs_associate {N : Nat} {M : jM} {a : aA} {f v : Int} {k : Int → jM → Prop} (hN : 200 ≤ N) (hX : XR M a) (hv : v = 0 ∨ v = 1) (H : ∀ M', frX M M' → XR M' (a_associate a f v).2 → k (a_associate a f v).1 M') : w_X6_associate N M 0 f v k := by
  unfold w_X6_associate
  simp only [Int.reduceAdd, isBelow_eq, b01, ite_not]
  unfold a_associate at H
  by_cases h1 : sFld f
  · rw [if_pos h1]
    rw [if_neg (not_not_intro h1)] at H
    refine remember_k (by omega) hX (fun M1 f1 hX1 => ?_)
    simp only [jL]
    have hS := hX1.now.setAss h1 hv
    have hX2 : XR (jU M1 43 f v) (aDo a (setA (aNow a) f v)) := hX1.setNow (fun c hc => jU_row (by omega)) hS
    refine ⟨h1, associatedCount_k (by omega) hS ?_⟩
    exact H _ (fun c hc => by rw [jU_row (by omega), f1 c (by omega)]) hX2
  · rw [if_neg h1]
    rw [if_pos h1] at H
    exact H M fr0 hX
theorem xs_define {N : Nat} {M : jM} {a : aA} {c x f g : Int} {k : Int → jM → Prop} (hN : 200 ≤ N) (hX : XR M a) (H : ∀ M', frX M M' → XR M' (a_define a c x f g).2 → k (a_define a c x f g).1 M') : w_X6_define N M 0 c x f g k := by
  unfold w_X6_define
  simp only [Int.reduceAdd, isBelow_eq, b01, ite_not]
  unfold a_define at H
  by_cases h1 : sCol c
  · rw [if_pos h1]
    by_cases h2 : sFld f
    · rw [if_pos h2]
      by_cases h3 : sFld g
      · rw [if_pos h3]
        rw [if_neg (by rintro (z | z | z); exact z h1; exact z h2; exact z h3)] at H
        by_cases h4 : 0 ≤ x ∧ x ≤ 4
        · rw [if_neg (by omega), if_pos h4.2]
          rw [if_neg (not_not_intro h4)] at H
          simp only [jL]
          rw [show M 44 c = sC (aNow a) c 0 from (hX.now.col h1).1]
          refine ⟨h1, remember_k (by omega) hX (fun M1 f1 hX1 => ?_)⟩
          rw [setColumn_eq h1]
          have hS := stC_XS hX1.now h1 h4 h2 h3
          have e : ∀ y : Int, y ≠ 44 → y ≠ 45 → y ≠ 46 → stC M1 1 c x f g y = M1 y := fun y a1 a2 a3 => by funext i; simp [stC, a1, a2, a3]
          exact H _ (fun y hy => by rw [e y (by omega) (by omega) (by omega), f1 y (by omega)]) (hX1.setNow (fun y hy => e y (by omega) (by omega) (by omega)) hS)
        · rw [if_pos h4] at H
          by_cases h5 : x < 0
          · rw [if_pos h5]; exact H M fr0 hX
          · rw [if_neg h5, if_neg (by omega)]; exact H M fr0 hX
      · rw [if_neg h3]
        rw [if_pos (Or.inr (Or.inr h3))] at H
        exact H M fr0 hX
    · rw [if_neg h2]
      rw [if_pos (Or.inr (Or.inl h2))] at H
      exact H M fr0 hX
  · rw [if_neg h1]
    rw [if_pos (Or.inl h1)] at H
    exact H M fr0 hX
theorem isCombined_eq (h : Int) (x y : Bool) (hh : 0 ≤ h ∧ h ≤ 2) (k : Int → Prop) : w_X6_isCombined h (bI x) (bI y) k = k (bI (if h = 0 then x && y else if h = 1 then x || y else x && !y)) := by
  have : h = 0 ∨ h = 1 ∨ h = 2 := by omega
  unfold w_X6_isCombined
  rcases this with rfl | rfl | rfl <;> cases x <;> cases y <;> simp [bI]
theorem combine_lp {M : jM} {s : aS} {h f g l : Int} {kx : jM → Prop} (hS : XS M 1 s) (hh : 0 ≤ h ∧ h ≤ 2) (hf : sLst f) (hg : sLst g) (hl : sLst l) (G : Int → Bool) (hG : ∀ i, G i = if h = 0 then sL s f i && sL s g i else if h = 1 then sL s f i || sL s g i else sL s f i && !sL s g i) (H : kx (liC M 1 l 100 G)) : ∀ (d n p : Nat), d < n → p + d = 100 → lp_X6_combine_50 0 h f g l kx n p (liC M 1 l p G) := by
  intro d
  induction d with
  | zero =>
    intro n p hn hp
    obtain ⟨n, rfl⟩ : ∃ m, n = m + 1 := ⟨n - 1, by omega⟩
    have : p = 100 := by omega
    subst this
    rw [lp_X6_combine_50, if_neg (by omega)]
    exact H
  | succ d ih =>
    intro n p hn hp
    obtain ⟨n, rfl⟩ : ∃ m, n = m + 1 := ⟨n - 1, by omega⟩
    have rd : ∀ m : Int, sLst m → ∀ k : Int → Prop, w_X4_isListed (liC M 1 l p G) 1 m p k = k (bI (sL s m p)) := by
      intro m hm k
      unfold w_X4_isListed
      simp (disch := omega) only [jW_id, jB]
      have e : liC M 1 l p G (1 + 46) (m * 100 + p) = bI (sL s m p) := by
        simp only [liC]
        rw [if_neg (by omega), show m * 100 + (p : Int) = 100 * m + p by omega]
        exact hS.lst hm (by omega) (by omega)
      rw [e]
      simp only [eq_iff_iff, and_iff_right_iff_imp]
      intro _; omega
    rw [lp_X6_combine_50, if_pos (by omega)]
    simp only [Int.reduceAdd, rd f hf, rd g hg, isCombined_eq h _ _ hh]
    rw [setListed_eq hl (by omega) (by omega), ← hG, liC_next (by omega)]
    simp (disch := omega) only [jL, jW_id]
    exact ih n (p + 1) (by omega) (by omega)
theorem xs_combine {N : Nat} {M : jM} {a : aA} {h f g l : Int} {k : Int → jM → Prop} (hN : 200 ≤ N) (hX : XR M a) (H : ∀ M', frX M M' → XR M' (a_combine a h f g l).2 → k (a_combine a h f g l).1 M') : w_X6_combine N M 0 h f g l k := by
  unfold w_X6_combine
  simp only [Int.reduceAdd, isBelow_eq, b01, ite_not]
  unfold a_combine at H
  by_cases h1 : sLst f
  · rw [if_pos h1]
    by_cases h2 : sLst g
    · rw [if_pos h2]
      by_cases h3 : sLst l
      · rw [if_pos h3]
        rw [if_neg (by rintro (z | z | z); exact z h1; exact z h2; exact z h3)] at H
        by_cases h4 : 0 ≤ h ∧ h ≤ 2
        · rw [if_neg (by omega), if_pos h4.2]
          rw [if_neg (not_not_intro h4)] at H
          refine remember_k (by omega) hX (fun M1 f1 hX1 => ?_)
          have hS := liC_XS (g := fun i => if h = 0 then sL (aNow a) f i && sL (aNow a) g i else if h = 1 then sL (aNow a) f i || sL (aNow a) g i else sL (aNow a) f i && !sL (aNow a) g i) hX1.now h3
          have := combine_lp (M := M1) (s := aNow a) (kx := fun M7 => w_X4_listedCount N M7 1 l (fun x8 => k x8 M7)) hX1.now h4 h1 h2 h3 _ (fun i => rfl) (listedCount_k (by omega) hS h3 (H _ (fun y hy => by rw [liC_row (by omega), f1 y (by omega)]) (hX1.setNow (fun y hy => liC_row (by omega)) hS))) 100 N 0 (by omega) (by omega)
          rw [show ((0 : Nat) : Int) = 0 from rfl, liC_0] at this
          exact this
        · rw [if_pos h4] at H
          by_cases h5 : h < 0
          · rw [if_pos h5]; exact H M fr0 hX
          · rw [if_neg h5, if_neg (by omega)]; exact H M fr0 hX
      · rw [if_neg h3]
        rw [if_pos (Or.inr (Or.inr h3))] at H
        exact H M fr0 hX
    · rw [if_neg h2]
      rw [if_pos (Or.inr (Or.inl h2))] at H
      exact H M fr0 hX
  · rw [if_neg h1]
    rw [if_pos (Or.inl h1)] at H
    exact H M fr0 hX
theorem xs_clearList {N : Nat} {M : jM} {a : aA} {l : Int} {k : Int → jM → Prop} (hN : 200 ≤ N) (hX : XR M a) (H : ∀ M', frX M M' → XR M' (a_clearList a l).2 → k (a_clearList a l).1 M') : w_X6_clearList N M 0 l k := by
  unfold w_X6_clearList
  simp only [Int.reduceAdd, isBelow_eq, b01, ite_not]
  unfold a_clearList at H
  by_cases h1 : sLst l
  · rw [if_pos h1]
    rw [if_neg (not_not_intro h1)] at H
    refine listedCount_k (by omega) hX.now h1 (remember_k (by omega) hX (fun M1 f1 hX1 => emptyList_k (by omega) h1 ?_))
    exact H _ (fun y hy => by rw [liC_row (by omega), f1 y (by omega)]) (hX1.setNow (fun y hy => liC_row (by omega)) (liC_XS hX1.now h1))
  · rw [if_neg h1]
    rw [if_pos h1] at H
    exact H M fr0 hX
