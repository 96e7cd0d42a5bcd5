/-! mean, select of the class -/
def meanP (s : aS) (c : Int) (k : UInt32 → Prop) : Prop := if ¬ sCol c then k 3388220416 else if (allX s c).length = 0 then k FP.fconst0 else (vf_n32 (FP.fdiv (FP.i2f (jI (sumL s c (-1)))) (FP.i2f (jI ((allX s c).length : Int)))) ∧ k (FP.fdiv (FP.i2f (jI (sumL s c (-1)))) (FP.i2f (jI ((allX s c).length : Int)))))
theorem meanP.mono {s : aS} {c : Int} {k k' : UInt32 → Prop} (h : meanP s c k) (g : ∀ f, k f → k' f) : meanP s c k' := by
  unfold meanP at h ⊢
  by_cases h1 : ¬ sCol c
  · rw [if_pos h1] at h ⊢
    exact g _ h
  · rw [if_neg h1] at h ⊢
    by_cases h2 : (allX s c).length = 0
    · rw [if_pos h2] at h ⊢
      exact g _ h
    · rw [if_neg h2] at h ⊢
      exact ⟨h.1, g _ h.2⟩
theorem xs_mean {N : Nat} {M : jM} {a : aA} {c : Int} {k : UInt32 → jM → Prop} (hN : 200 ≤ N) (hX : XR M a) (H : ∀ M', frX M M' → XR M' a → meanP (aNow a) c (fun f => k f M')) : w_X6_mean N M 0 c k := by
  unfold w_X6_mean
  simp only [isBelow_eq, b01, ite_not]
  unfold meanP at H
  by_cases h1 : sCol c
  · rw [if_pos h1]
    simp only [if_neg (not_not_intro h1)] at H
    refine entryCount_k hN hX h1 (fun M1 e => ?_)
    have hX1 : XR M1 a := hX.wk (fun y hy => e y (by omega) (by omega))
    by_cases h2 : (allX (aNow a) c).length = 0
    · rw [if_pos (by omega)]
      have := H M1 (fun y hy => e y (by omega) (by omega)) hX1
      rw [if_pos h2] at this
      exact this
    · rw [if_neg (by omega)]
      refine sumOf_k hN hX1 h1 (Or.inl rfl) (fun M2 e2 => ?_)
      have := H M2 (fun y hy => by rw [e2 y (by omega) (by omega)]; exact e y (by omega) (by omega)) (hX1.wk (fun y hy => e2 y (by omega) (by omega)))
      rw [if_neg h2] at this
      exact this
  · rw [if_neg h1]
    have := H M fr0 hX
    rw [if_pos h1] at this
    exact this
theorem passes_eq (v t x : Int) (k : Int → Prop) : w_X6_passes v t x k = k (bI (pB t x v)) := by
  unfold w_X6_passes pB
  by_cases t0 : t = 0
  · rw [if_pos t0, if_pos t0]
    by_cases q : v < x
    · rw [if_pos q]; simp [q, bI]
    · rw [if_neg q]; simp [q, bI]
  · rw [if_neg t0, if_neg t0]
    by_cases t1 : t = 1
    · rw [if_pos t1, if_pos t1]
      by_cases q : v = x
      · rw [if_pos q]; simp [q, bI]
      · rw [if_neg q]; simp [q, bI]
    · rw [if_neg t1, if_neg t1]
      by_cases q : v ≤ x
      · rw [if_pos q, decide_eq_false (by omega)]; rfl
      · rw [if_neg q, decide_eq_true (by omega)]; rfl
theorem countP_take {B : List Int} {P : Int → Bool} {p : Nat} (h : p < B.length) : (B.take (p + 1)).countP P = (B.take p).countP P + (if P (B.getD p 0) then 1 else 0) := by
  rw [List.take_succ, List.getElem?_eq_getElem h, List.countP_append, List.getD_eq_getElem?_getD, List.getElem?_eq_getElem h]
  simp [List.countP_cons]
theorem isSelected_lp {M0 M : jM} {B : List Int} {t x : Int} {kx : Int → Prop} (h : SQ M0 M B) (hl : B.length ≤ 20) (H : kx (B.countP (pB t x) : Nat)) : ∀ (d n p : Nat), d < n → p + d = B.length → lp_X6_isSelected_6 0 t x M kx n (((B.take p).countP (pB t x) : Nat) : Int) p := by
  intro d
  induction d with
  | zero =>
    intro n p hn hp
    obtain ⟨n, rfl⟩ : ∃ m, n = m + 1 := ⟨n - 1, by omega⟩
    rw [lp_X6_isSelected_6]
    simp only [Int.reduceAdd]
    rw [h.2.1, if_neg (by omega), List.take_of_length_le (by omega)]
    exact H
  | succ d ih =>
    intro n p hn hp
    obtain ⟨n, rfl⟩ : ∃ m, n = m + 1 := ⟨n - 1, by omega⟩
    have hpl : p < B.length := by omega
    have e := countP_take (P := pB t x) hpl
    have hle : (B.take p).countP (pB t x) ≤ p := Nat.le_trans List.countP_le_length (by rw [List.length_take]; omega)
    rw [lp_X6_isSelected_6]
    simp only [Int.reduceAdd]
    rw [h.2.1, if_pos (by omega)]
    refine sqAt_eq h hl (by omega) (by omega) ?_
    rw [passes_eq, Int.toNat_natCast]
    simp only [bI_0, jL]
    have := ih n (p + 1) (by omega) (by omega)
    by_cases z : pB t x (B.getD p 0) = true
    · rw [if_neg (by rw [z]; decide)]
      rw [if_pos z] at e
      rw [e] at this
      rw [jW_id (by omega), jW_id (by omega)]
      exact this
    · rw [if_pos (by simpa using z)]
      rw [if_neg z] at e
      rw [e] at this
      rw [jW_id (by omega)]
      exact this
theorem isSelected_k {N : Nat} {M0 M : jM} {B : List Int} {t x e : Int} {k : Int → Prop} (hN : 200 ≤ N) (h : SQ M0 M B) (hl : B.length ≤ 20) (H : k (bI (selB B t x e))) : w_X6_isSelected N M 0 t x e k := by
  unfold w_X6_isSelected
  refine isSelected_lp (t := t) (x := x) h hl ?_ B.length N 0 (by omega) (by omega)
  have h1 := h.2.1
  simp only [Int.reduceAdd, h1]
  unfold selB at H
  by_cases z : 0 < B.countP (pB t x)
  · rw [if_neg (by omega)]
    by_cases ze : e = 0
    · rw [if_pos ze]
      simpa [z, ze, bI] using H
    · rw [if_neg ze]
      by_cases zl : B.countP (pB t x) = B.length
      · rw [if_pos (by omega)]
        rw [decide_eq_true z, decide_eq_true zl] at H
        simpa [bI] using H
      · rw [if_neg (by omega)]
        rw [decide_eq_true z, decide_eq_false zl, decide_eq_false ze] at H
        simpa [bI] using H
  · rw [if_pos (by omega)]
    rw [decide_eq_false z] at H
    simpa [bI] using H
theorem setL_uI {s : aS} {l i : Int} {g : Int → Bool} {v : Bool} {M : jM} {b : Int} (h : XS M b (setL s l g)) (hl : sLst l) (i0 : 0 ≤ i) (i1 : i < 100) : XS (jU M (b + 46) (100 * l + i) (bI v)) b (setL s l (uI g i v)) := by
  obtain ⟨h1, h2, h3, h4, h5, h6, h7, h8⟩ := h
  have c4 : ∀ c : Int, c ≠ b + 46 → jU M (b + 46) (100 * l + i) (bI v) c = M c := fun c hc => jU_row hc
  refine ⟨h1, by rw [c4 b (by omega)]; exact h2, fun j a c => by rw [c4 (b + 1) (by omega)]; exact h3 j a c, fun j k q1 q2 q3 q4 => by rw [c4 (b + 1) (by omega)]; exact h4 j k q1 q2 q3 q4, fun j id hj => ?_, fun f hf => by rw [c4 (b + 42) (by omega)]; exact h6 f hf, fun c hc => by rw [c4 (b + 43) (by omega), c4 (b + 44) (by omega), c4 (b + 45) (by omega)]; exact h7 c hc, fun m j hm j0 j1 => ?_⟩
  · have q := h5 j id hj
    have hlt : j < (sI s).length := (List.getElem?_eq_some_iff.mp hj).1
    have h10 : (sI s).length ≤ 10 := h1.1
    obtain ⟨t, t0, t1, t2⟩ := h3 j (by omega) (by omega)
    rw [c4 (b + 1) (by omega)]
    exact q.congr (c4 _ (by omega)) (c4 _ (by omega)) (c4 _ (by omega)) (c4 _ (by omega))
  · show jU M (b + 46) (100 * l + i) (bI v) (b + 46) (100 * m + j) = bI (uI (sL s) l (uI g i v) m j)
    have q := h8 m j hm j0 j1
    have q : M (b + 46) (100 * m + j) = bI (uI (sL s) l g m j) := q
    unfold jU
    by_cases e : 100 * m + j = 100 * l + i
    · rw [if_pos ⟨rfl, e⟩]
      have em : m = l := by omega
      have ej : j = i := by omega
      rw [em, ej, uI_self, uI_self]
    · rw [if_neg (fun z => e z.2), q]
      by_cases em : m = l
      · have ej : j ≠ i := by omega
        rw [em, uI_self, uI_self, uI_ne ej]
      · rw [uI_ne em, uI_ne em]
theorem XS.at {M : jM} {s : aS} (h : XS M 1 s) {p : Nat} {id : Int} (hi : (sI s)[p]? = some id) : ∃ r : Int, M 2 p = r ∧ 3 ≤ r ∧ r ≤ 39 ∧ RX M r id (sK s id) (sF s id) := by
  have hl := h.lt hi
  have hin := h.in (i := (p : Int)) (by omega) (by omega)
  simp only [Int.reduceAdd] at hin
  exact ⟨M 2 p, rfl, by omega, by omega, h.rec hi⟩
def gsel (s : aS) (c t x e : Int) (p : Nat) : Int → Bool := fun i => decide (i ∈ (sI s).take p) && selB (colS s i c) t x e
theorem gsel_in {s : aS} {c t x e id : Int} {p : Nat} (h : (sI s)[p]? = some id) (i : Int) : gsel s c t x e (p + 1) i = if i = id then selB (colS s id c) t x e else gsel s c t x e p i := by
  unfold gsel
  rw [List.take_succ, h]
  by_cases z : i = id
  · subst z
    simp
  · simp [z]
theorem select_lp {N : Nat} {M4 : jM} {s : aS} {c t x e l : Int} {kx : jM → Prop} (hN : 200 ≤ N) (hc : sCol c) (hl : sLst l) (H : ∀ M', (∀ c : Int, c ≠ 47 → c ≠ 246 → c ≠ 247 → M' c = M4 c) → XS M' 1 (setL s l (gsel s c t x e (sI s).length)) → kx M') :
    ∀ (d n p : Nat) (M : jM), d < n → p + d = (sI s).length → (∀ c : Int, c ≠ 47 → c ≠ 246 → c ≠ 247 → M c = M4 c) → XS M 1 (setL s l (gsel s c t x e p)) → lp_X6_select_62 N 0 c t x e l kx n p M := by
  intro d
  induction d with
  | zero =>
    intro n p M hn hp f hS
    obtain ⟨n, rfl⟩ : ∃ m, n = m + 1 := ⟨n - 1, by omega⟩
    have hcnt : M 1 1 = ((sI s).length : Nat) := hS.cnt.1
    rw [lp_X6_select_62]
    simp only [Int.reduceAdd]
    rw [hcnt, if_neg (by omega)]
    have : p = (sI s).length := by omega
    rw [this] at hS
    exact H M f hS
  | succ d ih =>
    intro n p M hn hp f hS
    obtain ⟨n, rfl⟩ : ∃ m, n = m + 1 := ⟨n - 1, by omega⟩
    have hcnt : M 1 1 = ((sI s).length : Nat) := hS.cnt.1
    have hl10 : (sI s).length ≤ 10 := hS.1.1
    obtain ⟨id, hi⟩ : ∃ id, (sI s)[p]? = some id := ⟨_, List.getElem?_eq_getElem (by omega)⟩
    have hid : 0 ≤ id ∧ id < 100 := hS.1.2.2.1 id (List.mem_of_getElem? hi)
    obtain ⟨r, r0, r1, r2, hR⟩ := hS.at hi
    rw [lp_X6_select_62]
    simp only [Int.reduceAdd]
    rw [hcnt, if_pos (by omega), r0]
    have hb := hR.cok hS.1 hc
    refine ⟨by omega, ?_⟩
    simp only [jL]
    refine gather_k hN hS (by omega) hR hc (fun M1 h1 => isSelected_k (e := e) hN h1 hb.1 ?_)
    have f1 : ∀ c : Int, c ≠ 47 → c ≠ 246 → c ≠ 247 → M1 c = M4 c := fun y a1 a2 a3 => by rw [h1.1 y a2 a3]; exact f y a1 a2 a3
    have hS1 : XS M1 1 (setL s l (gsel s c t x e p)) := hS.congr (fun y a1 a2 => h1.1 y (by omega) (by omega))
    simp only [bI_0]
    show (if selB (colS s id c) t x e = false then _ else _)
    by_cases z : selB (colS s id c) t x e = true
    · rw [if_neg (by rw [z]; decide), h1.1 r (by omega) (by omega), hR.1, setListed_eq hl hid.1 hid.2, jW_id (by omega)]
      refine ih n (p + 1) _ (by omega) (by omega) (fun y a1 a2 a3 => by rw [jU_row (by omega)]; exact f1 y a1 a2 a3) ?_
      have eg : gsel s c t x e (p + 1) = uI (gsel s c t x e p) id true := by
        funext i
        rw [gsel_in hi, z]
        rfl
      rw [eg]
      exact setL_uI hS1 hl hid.1 hid.2
    · rw [if_pos (by simpa using z), jW_id (by omega)]
      refine ih n (p + 1) _ (by omega) (by omega) f1 ?_
      have eg : gsel s c t x e (p + 1) = gsel s c t x e p := by
        funext i
        rw [gsel_in hi]
        by_cases q : i = id
        · rw [if_pos q]
          unfold gsel
          rw [q]
          simp [z]
        · rw [if_neg q]
      rw [eg]
      exact hS1
theorem xs_select {N : Nat} {M : jM} {a : aA} {c t x e l : Int} {k : Int → jM → Prop} (hN : 200 ≤ N) (hX : XR M a) (H : ∀ M', frX M M' → XR M' (a_select a c t x e l).2 → k (a_select a c t x e l).1 M') : w_X6_select N M 0 c t x e l k := by
  unfold w_X6_select
  simp only [isBelow_eq, b01, ite_not, Int.reduceAdd]
  unfold a_select at H
  by_cases h1 : sCol c
  · rw [if_pos h1]
    by_cases h2 : sLst l
    · rw [if_pos h2]
      rw [if_neg (fun z => z.elim (fun z => z h1) (fun z => z h2))] at H
      have hbad : ¬ (0 ≤ t ∧ t ≤ 2) ∨ ¬ (-1000000 ≤ x ∧ x ≤ 1000000) → k (-1000002) M := fun z => by rw [if_pos z] at H; exact H M fr0 hX
      by_cases t0 : t < 0
      · rw [if_pos t0]; exact hbad (Or.inl (by omega))
      · rw [if_neg t0]
        by_cases t2 : t ≤ 2
        · rw [if_pos t2]
          by_cases x0 : x < -1000000
          · rw [if_pos x0]; exact hbad (Or.inr (by omega))
          · rw [if_neg x0]
            by_cases x1 : x ≤ 1000000
            · rw [if_pos x1]
              rw [if_neg (by omega)] at H
              refine remember_k (by omega) hX (fun M1 f1 hX1 => emptyList_k hN h2 ?_)
              have hS1 : XS (liC M1 1 l 100 (fun _ => false)) 1 (setL (aNow a) l (fun _ => false)) := liC_XS hX1.now h2
              have e0 : gsel (aNow a) c t x e 0 = fun _ => false := by funext i; simp [gsel]
              refine select_lp (s := aNow a) (M4 := liC M1 1 l 100 (fun _ => false)) hN h1 h2 (fun M2 f2 hS2 => ?_) (sI (aNow a)).length N 0 _ (by have := hX.now.cnt; omega) (by omega) (fun _ _ _ _ => rfl) (by rw [e0]; exact hS1)
              have eg : setL (aNow a) l (gsel (aNow a) c t x e (sI (aNow a)).length) = selS (aNow a) c t x e l := by
                unfold selS gsel
                rw [List.take_length]
              rw [eg] at hS2
              have f3 : ∀ y : Int, y ≠ 47 → y ≠ 246 → y ≠ 247 → M2 y = M1 y := fun y a1 a2 a3 => by rw [f2 y a1 a2 a3, liC_row (by omega)]
              exact listedCount_k hN hS2 h2 (H M2 (fun y hy => by rw [f3 y (by omega) (by omega) (by omega), f1 y (by omega)]) (hX1.setNow2 (fun y hy => f3 y (by omega) (by omega) (by omega)) hS2))
            · rw [if_neg x1]; exact hbad (Or.inr (by omega))
        · rw [if_neg t2]; exact hbad (Or.inl (by omega))
    · rw [if_neg h2]
      rw [if_pos (Or.inr h2)] at H
      exact H M fr0 hX
  · rw [if_neg h1]
    rw [if_pos (Or.inl h1)] at H
    exact H M fr0 hX
