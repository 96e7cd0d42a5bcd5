/-! CALLS ON COLUMNS: numbers, numberAt, exploded, total, select -/
def a_numbers (a : aA) (id c : Int) : Int := if id ∉ sI (aNow a) ∨ ¬ sCol c then -1000001 else (colS (aNow a) id c).length
def a_numberAt (a : aA) (id c p : Int) : Int := if id ∉ sI (aNow a) ∨ ¬ sCol c then -1000001 else if p < 0 then -1000002 else if (colS (aNow a) id c).length ≤ p then -1000007 else (colS (aNow a) id c).getD p.toNat 0
def allX (s : aS) (c : Int) : List Int := (sI s).flatMap (fun id => colS s id c)
def a_exploded (a : aA) (c : Int) : Int := if ¬ sCol c then -1000001 else (allX (aNow a) c).length
def sumL (s : aS) (c l : Int) : Int := ((sI s).map (fun id => if l = -1 ∨ sL s l id = true then (colS s id c).sum else 0)).sum
def a_total (a : aA) (c l : Int) : Int := if ¬ sCol c ∨ ¬ (l = -1 ∨ sLst l) then -1000001 else sumL (aNow a) c l
def pB (t x v : Int) : Bool := if t = 0 then decide (v < x) else if t = 1 then decide (v = x) else decide (x < v)
def selB (B : List Int) (t x e : Int) : Bool := decide (0 < B.countP (pB t x)) && (decide (e = 0) || decide (B.countP (pB t x) = B.length))
def selS (s : aS) (c t x e l : Int) : aS := setL s l (fun i => decide (i ∈ sI s) && selB (colS s i c) t x e)
def a_select (a : aA) (c t x e l : Int) : Int × aA :=
  if ¬ sCol c ∨ ¬ sLst l then (-1000001, a) else if ¬ (0 ≤ t ∧ t ≤ 2) ∨ ¬ (-1000000 ≤ x ∧ x ≤ 1000000) then (-1000002, a)
  else (nList (selS (aNow a) c t x e l) l, aDo a (selS (aNow a) c t x e l))
theorem XR.setNow2 {M M' : jM} {a : aA} {n : aS} (h : XR M a) (e : ∀ c : Int, (c = 0 ∨ (48 ≤ c ∧ c < 241)) → M' c = M c) (hn : XS M' 1 n) : XR M' (n, aH a, aT a, aP a) := by
  obtain ⟨q1, q2, q3, q4, q5, q6, q7, q8, q9, q10, q11, q12, q13, q14⟩ := h
  have pin : ∀ i : Int, 0 ≤ i → i < 4 → 48 < M 48 i ∧ M 48 i < 191 := fun i h0 h1 => by obtain ⟨q, a1, a2, a3⟩ := q4 i h0 h1; omega
  have e48 := e 48 (by omega)
  refine ⟨hn, by rw [e 0 (by omega)]; exact q2, q3, fun i h0 h1 => by rw [e48]; exact q4 i h0 h1, fun i j a b c d => by rw [e48]; exact q5 i j a b c d, fun i h0 h1 j a b => by have := pin i h0 h1; rw [e48, e _ (by omega)]; exact q6 i h0 h1 j a b, fun i h0 h1 j k a b c d => by have := pin i h0 h1; rw [e48, e _ (by omega)]; exact q7 i h0 h1 j k a b c d, fun i s hi => ?_, by rw [e 237 (by omega)]; exact q9, q10, fun i x hi => by rw [e 238 (by omega)]; exact q11 i x hi, by rw [e 239 (by omega)]; exact q12, q13, fun i x hi => by rw [e 240 (by omega)]; exact q14 i x hi⟩
  have hi : (aH a)[i]? = some s := hi
  have hl : i < (aH a).length := (List.getElem?_eq_some_iff.mp hi).1
  have := pin i (by omega) (by omega)
  rw [e48]
  exact (q8 i s hi).congr (fun c h0 h1 => e c (by omega))
theorem XR.wk {M M' : jM} {a : aA} (h : XR M a) (e : ∀ c : Int, c < 241 → M' c = M c) : XR M' a := h.setNow2 (fun c hc => e c (by omega)) (h.now.congr (fun c h0 h1 => e c (by omega)))
theorem RX.cok {M : jM} {r id K c : Int} {s : aS} (h : RX M r id K (sF s id)) (hs : sOK s) (hc : sCol c) : (colS s id c).length ≤ 20 ∧ ∀ x ∈ colS s id c, cBig x := by
  have hk := hs.2.2.2.2 c hc
  exact col_ok (h.2.2.2.ok hk.2.2.1) (h.2.2.2.ok hk.2.2.2)
theorem xs_numbers {N : Nat} {M : jM} {a : aA} {id c : Int} {k : Int → jM → Prop} (hN : 200 ≤ N) (hX : XR M a) (H : ∀ M', frX M M' → XR M' a → k (a_numbers a id c) M') : w_X6_numbers N M 0 id c k := by
  unfold w_X6_numbers
  simp only [Int.reduceAdd, isBelow_eq, b01, ite_not]
  unfold a_numbers at H
  refine hX.find_k (by omega) (fun i r hi r0 r1 r2 hr => ?_) (fun hn => ?_)
  · have hm := List.mem_of_getElem? hi
    rw [if_neg (by omega : ¬ r < 0)]
    by_cases h1 : sCol c
    · rw [if_pos h1]
      rw [if_neg (fun z => z.elim (fun z => z hm) (fun z => z h1))] at H
      refine gather_k hN hX.now (by omega) hr h1 (fun M1 h2 => ?_)
      rw [h2.2.1]
      exact H M1 (fun y hy => h2.1 y (by omega) (by omega)) (hX.wk (fun y hy => h2.1 y (by omega) (by omega)))
    · rw [if_neg h1]
      rw [if_pos (Or.inr h1)] at H
      exact H M fr0 hX
  · rw [if_pos (Or.inl hn)] at H
    rw [if_pos (by omega : (-1 : Int) < 0)]
    exact H M fr0 hX
theorem xs_numberAt {N : Nat} {M : jM} {a : aA} {id c p : Int} {k : Int → jM → Prop} (hN : 200 ≤ N) (hX : XR M a) (H : ∀ M', frX M M' → XR M' a → k (a_numberAt a id c p) M') : w_X6_numberAt N M 0 id c p k := by
  unfold w_X6_numberAt
  simp only [Int.reduceAdd, isBelow_eq, b01, ite_not]
  unfold a_numberAt at H
  refine hX.find_k (by omega) (fun i r hi r0 r1 r2 hr => ?_) (fun hn => ?_)
  · have hm := List.mem_of_getElem? hi
    rw [if_neg (by omega : ¬ r < 0)]
    by_cases h1 : sCol c
    · rw [if_pos h1]
      rw [if_neg (fun z => z.elim (fun z => z hm) (fun z => z h1))] at H
      by_cases h3 : p < 0
      · rw [if_pos h3] at H ⊢
        exact H M fr0 hX
      · rw [if_neg h3] at H ⊢
        have hb := hr.cok hX.now.1 h1
        refine gather_k hN hX.now (by omega) hr h1 (fun M1 h2 => ?_)
        have HH := H M1 (fun y hy => h2.1 y (by omega) (by omega)) (hX.wk (fun y hy => h2.1 y (by omega) (by omega)))
        rw [h2.2.1]
        by_cases h4 : (colS (aNow a) id c).length ≤ p
        · rw [if_pos h4] at HH
          rw [if_neg (by omega)]
          exact HH
        · rw [if_neg h4] at HH
          rw [if_pos (by omega)]
          exact sqAt_eq h2 hb.1 (by omega) (by omega) HH
    · rw [if_neg h1]
      rw [if_pos (Or.inr h1)] at H
      exact H M fr0 hX
  · rw [if_pos (Or.inl hn)] at H
    rw [if_pos (by omega : (-1 : Int) < 0)]
    exact H M fr0 hX
theorem flat_take {α : Type} {I : List Int} {p : Nat} {x : Int} {g : Int → List α} (h : I[p]? = some x) : (I.take (p + 1)).flatMap g = (I.take p).flatMap g ++ g x := by
  rw [List.take_succ, h]
  simp
/-- a record at a place of now, at a memory whose cells of now are as they were -/
theorem XR.at {M M1 : jM} {a : aA} (hX : XR M a) (e : ∀ c : Int, c ≠ 246 → c ≠ 247 → M1 c = M c) {p : Nat} (hp : p < (sI (aNow a)).length) : ∃ id r : Int, (sI (aNow a))[p]? = some id ∧ M1 2 p = r ∧ 3 ≤ r ∧ r ≤ 39 ∧ XS M1 1 (aNow a) ∧ RX M1 r id (sK (aNow a) id) (sF (aNow a) id) := by
  obtain ⟨id, hi⟩ : ∃ id, (sI (aNow a))[p]? = some id := ⟨_, List.getElem?_eq_getElem hp⟩
  obtain ⟨r, r0, r1, r2, r3, hr⟩ := hX.rec hi
  exact ⟨id, r, hi, by rw [e 2 (by omega) (by omega)]; exact r0, r1, r2, hX.now.congr (fun c h0 h1 => e c (by omega) (by omega)), hr.congr (e _ (by omega) (by omega)) (e _ (by omega) (by omega)) (e _ (by omega) (by omega)) (e _ (by omega) (by omega))⟩
theorem SQ.tr {M0 M M' : jM} {B : List Int} (h : SQ M M' B) (e : ∀ c : Int, c ≠ 246 → c ≠ 247 → M c = M0 c) : ∀ c : Int, c ≠ 246 → c ≠ 247 → M' c = M0 c := fun c h1 h2 => by rw [h.1 c h1 h2]; exact e c h1 h2
theorem entryCount_lp {N : Nat} {M : jM} {a : aA} {c : Int} {kx : Int → jM → Prop} (hN : 200 ≤ N) (hX : XR M a) (hc : sCol c) (H : ∀ M', (∀ c : Int, c ≠ 246 → c ≠ 247 → M' c = M c) → kx (allX (aNow a) c).length M') :
    ∀ (d n p : Nat) (M1 : jM), d < n → p + d = (sI (aNow a)).length → (∀ c : Int, c ≠ 246 → c ≠ 247 → M1 c = M c) → (((sI (aNow a)).take p).flatMap (fun id => colS (aNow a) id c)).length ≤ 20 * p → lp_X6_entryCount_4 N 0 c kx n ((((sI (aNow a)).take p).flatMap (fun id => colS (aNow a) id c)).length : Nat) p M1 := by
  have hcnt := hX.now.cnt
  intro d
  induction d with
  | zero =>
    intro n p M1 hn hp e hb
    obtain ⟨n, rfl⟩ : ∃ m, n = m + 1 := ⟨n - 1, by omega⟩
    rw [lp_X6_entryCount_4]
    simp only [Int.reduceAdd]
    rw [e 1 (by omega) (by omega), hcnt.1, if_neg (by omega), List.take_of_length_le (by omega)]
    exact H M1 e
  | succ d ih =>
    intro n p M1 hn hp e hb
    obtain ⟨n, rfl⟩ : ∃ m, n = m + 1 := ⟨n - 1, by omega⟩
    obtain ⟨id, r, hi, r0, r1, r2, hS, hR⟩ := hX.at e (p := p) (by omega)
    rw [lp_X6_entryCount_4]
    simp only [Int.reduceAdd]
    rw [e 1 (by omega) (by omega), hcnt.1, if_pos (by omega), r0]
    have hb2 := hR.cok hX.now.1 hc
    have el := congrArg List.length (flat_take (g := fun id => colS (aNow a) id c) hi)
    rw [List.length_append] at el
    refine ⟨by omega, gather_k hN hS (by omega) hR hc (fun M2 h2 => ?_)⟩
    rw [h2.2.1]
    simp (disch := omega) only [jL, jW_id]
    have e3 : ((((sI (aNow a)).take p).flatMap (fun id => colS (aNow a) id c)).length : Int) + ((colS (aNow a) id c).length : Int) = ((((sI (aNow a)).take (p + 1)).flatMap (fun id => colS (aNow a) id c)).length : Nat) := by omega
    rw [e3]
    exact ih n (p + 1) M2 (by omega) (by omega) (h2.tr e) (by omega)
theorem entryCount_k {N : Nat} {M : jM} {a : aA} {c : Int} {k : Int → jM → Prop} (hN : 200 ≤ N) (hX : XR M a) (hc : sCol c) (H : ∀ M', (∀ c : Int, c ≠ 246 → c ≠ 247 → M' c = M c) → k (allX (aNow a) c).length M') : w_X6_entryCount N M 0 c k := by
  have hcnt := hX.now.cnt
  exact entryCount_lp hN hX hc H (sI (aNow a)).length N 0 M (by omega) (by omega) (fun _ _ _ => rfl) (by simp)
theorem xs_exploded {N : Nat} {M : jM} {a : aA} {c : Int} {k : Int → jM → Prop} (hN : 200 ≤ N) (hX : XR M a) (H : ∀ M', frX M M' → XR M' a → k (a_exploded a c) M') : w_X6_exploded N M 0 c k := by
  unfold w_X6_exploded
  simp only [isBelow_eq, b01, ite_not]
  unfold a_exploded at H
  by_cases h1 : sCol c
  · rw [if_pos h1]
    rw [if_neg (not_not_intro h1)] at H
    exact entryCount_k hN hX h1 (fun M1 e => H M1 (fun y hy => e y (by omega) (by omega)) (hX.wk (fun y hy => e y (by omega) (by omega))))
  · rw [if_neg h1]
    rw [if_pos h1] at H
    exact H M fr0 hX
def sumP (s : aS) (c l : Int) (p : Nat) : Int := (((sI s).take p).map (fun id => if l = -1 ∨ sL s l id = true then (colS s id c).sum else 0)).sum
theorem sumP_next {s : aS} {c l id : Int} {p : Nat} (h : (sI s)[p]? = some id) : sumP s c l (p + 1) = sumP s c l p + (if l = -1 ∨ sL s l id = true then (colS s id c).sum else 0) := by
  unfold sumP
  rw [List.take_succ, h, List.map_append, List.sum_append]
  simp
theorem sumOf_lp {N : Nat} {M : jM} {a : aA} {c l : Int} {kx : Int → jM → Prop} (hN : 200 ≤ N) (hX : XR M a) (hc : sCol c) (hl : l = -1 ∨ sLst l) (H : ∀ M', (∀ c : Int, c ≠ 246 → c ≠ 247 → M' c = M c) → kx (sumL (aNow a) c l) M') :
    ∀ (d n p : Nat) (M1 : jM), d < n → p + d = (sI (aNow a)).length → (∀ c : Int, c ≠ 246 → c ≠ 247 → M1 c = M c) → (-19960020 * (p : Int) ≤ sumP (aNow a) c l p ∧ sumP (aNow a) c l p ≤ 19960020 * (p : Int)) → lp_X6_sumOf_5 N 0 c l kx n (sumP (aNow a) c l p) p M1 := by
  have hcnt := hX.now.cnt
  intro d
  induction d with
  | zero =>
    intro n p M1 hn hp e hb
    obtain ⟨n, rfl⟩ : ∃ m, n = m + 1 := ⟨n - 1, by omega⟩
    rw [lp_X6_sumOf_5]
    simp only [Int.reduceAdd]
    rw [e 1 (by omega) (by omega), hcnt.1, if_neg (by omega)]
    unfold sumP
    rw [List.take_of_length_le (by omega)]
    exact H M1 e
  | succ d ih =>
    intro n p M1 hn hp e hb
    obtain ⟨n, rfl⟩ : ∃ m, n = m + 1 := ⟨n - 1, by omega⟩
    obtain ⟨id, r, hi, r0, r1, r2, hS, hR⟩ := hX.at e (p := p) (by omega)
    have hid := hX.now.1.2.2.1 id (List.mem_of_getElem? hi)
    rw [lp_X6_sumOf_5]
    simp only [Int.reduceAdd]
    rw [e 1 (by omega) (by omega), hcnt.1, if_pos (by omega), r0]
    have hb2 := hR.cok hX.now.1 hc
    have hb3 := sum_bd hb2.2
    have en := sumP_next (c := c) (l := l) hi
    refine ⟨by omega, ?_⟩
    simp only [jL, Int.reduceAdd]
    have hg : (l = -1 ∨ sL (aNow a) l id = true) → w_X4_gather N M1 1 r c 246 (fun M9 => w_X2_sum N M9 246 (fun x10 => lp_X6_sumOf_5 N 0 c l kx n (jW (sumP (aNow a) c l p + x10)) (jW ((p : Int) + 1)) M9)) := by
      intro z
      rw [if_pos z] at en
      refine gather_k hN hS (by omega) hR hc (fun M2 h2 => sqSum_k hN h2 hb2.1 hb2.2 ?_)
      rw [jW_id (by omega), jW_id (by omega), ← en]
      exact ih n (p + 1) M2 (by omega) (by omega) (h2.tr e) (by omega)
    by_cases z1 : l = -1
    · rw [if_pos z1]
      exact hg (Or.inl z1)
    · have hl2 : sLst l := hl.elim (fun z => absurd z z1) (fun z => z)
      rw [if_neg z1, hR.1, isListed_eq hS hl2 hid.1 hid.2]
      simp only [bI_0]
      by_cases z2 : sL (aNow a) l id = true
      · rw [if_neg (by rw [z2]; decide)]
        exact hg (Or.inr z2)
      · rw [if_pos (by simpa using z2)]
        rw [if_neg (fun q => q.elim z1 z2)] at en
        rw [jW_id (by omega)]
        have := ih n (p + 1) M1 (by omega) (by omega) e (by omega)
        rw [en, Int.add_zero] at this
        exact this
theorem sumOf_k {N : Nat} {M : jM} {a : aA} {c l : Int} {k : Int → jM → Prop} (hN : 200 ≤ N) (hX : XR M a) (hc : sCol c) (hl : l = -1 ∨ sLst l) (H : ∀ M', (∀ c : Int, c ≠ 246 → c ≠ 247 → M' c = M c) → k (sumL (aNow a) c l) M') : w_X6_sumOf N M 0 c l k := by
  have hcnt := hX.now.cnt
  have := sumOf_lp (kx := k) hN hX hc hl H (sI (aNow a)).length N 0 M (by omega) (by omega) (fun _ _ _ => rfl) (by simp [sumP])
  have e0 : sumP (aNow a) c l 0 = 0 := by simp [sumP]
  rw [e0] at this
  exact this
theorem xs_total {N : Nat} {M : jM} {a : aA} {c l : Int} {k : Int → jM → Prop} (hN : 200 ≤ N) (hX : XR M a) (H : ∀ M', frX M M' → XR M' a → k (a_total a c l) M') : w_X6_total N M 0 c l k := by
  unfold w_X6_total
  simp only [isBelow_eq, b01, ite_not]
  unfold a_total at H
  by_cases h1 : sCol c
  · rw [if_pos h1]
    have hk : ∀ hl : l = -1 ∨ sLst l, w_X6_sumOf N M 0 c l (fun x2 M3 => (k x2 M3)) := by
      intro hl
      rw [if_neg (fun z => z.elim (fun z => z h1) (fun z => z hl))] at H
      exact sumOf_k hN hX h1 hl (fun M1 e => H M1 (fun y hy => e y (by omega) (by omega)) (hX.wk (fun y hy => e y (by omega) (by omega))))
    by_cases h2 : l = -1
    · rw [if_pos h2]
      exact hk (Or.inl h2)
    · rw [if_neg h2]
      by_cases h3 : sLst l
      · rw [if_pos h3]
        exact hk (Or.inr h3)
      · rw [if_neg h3]
        rw [if_pos (Or.inr (fun z => z.elim h2 h3))] at H
        exact H M fr0 hX
  · rw [if_neg h1]
    rw [if_pos (Or.inl h1)] at H
    exact H M fr0 hX
