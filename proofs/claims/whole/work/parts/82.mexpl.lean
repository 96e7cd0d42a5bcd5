/-! THE REFERENCE'S ENTRIES: exploded, total, mean -/
/-- the entries so far -/
def EM (M0 M : jM) (E : List eE) : Prop := wf M0 M ∧ ∀ (i : Nat) (e : eE), E[i]? = some e → M 259 i = e.1 ∧ M 260 i = e.2.1 ∧ M 261 i = e.2.2
theorem EM.sm {M0 M M' : jM} {E : List eE} {B : List Int} (h : EM M0 M E) (g : SM M M' B) : EM M0 M' E := ⟨h.1.tr g.1, fun i e hi => by rw [g.2.1 259 (by omega), g.2.1 260 (by omega), g.2.1 261 (by omega)]; exact h.2 i e hi⟩
theorem entF_len2 {id k : Int} {B : List Int} : (entF id k B).length = B.length := entF_len
theorem entF_drop {id : Int} {B : List Int} {p : Nat} (h : p < B.length) : entF id p (B.drop p) = (B.getD p 0, id, (p : Int)) :: entF id ((p + 1 : Nat) : Int) (B.drop (p + 1)) := by
  have e : B.drop p = B.getD p 0 :: B.drop (p + 1) := by
    rw [List.drop_eq_getElem_cons h, List.getD_eq_getElem?_getD, List.getElem?_eq_getElem h]
    rfl
  rw [e]
  rfl
theorem lays_lp1 {M0 : jM} {r id K : Int} {F : rF} {B : List Int} {C : List eE} {kx : Int → jM → Prop} (hr : sRec r) (hR : RM M0 253 (55 + 106 * r) id K F) (hB : B.length ≤ 20) (hC : C.length ≤ 200) (H : ∀ M', EM M0 M' C → kx C.length M') :
    ∀ (d n p : Nat) (M : jM) (E : List eE), d < n → p + d = B.length → EM M0 M E → (∀ (i : Nat) (x : Int), B[i]? = some x → M 258 i = x) → E ++ entF id p (B.drop p) = C → lp_X7_laysEntries_25 252 r B.length kx n E.length p M := by
  intro d
  induction d with
  | zero =>
    intro n p M E hn hp hE hrow e
    obtain ⟨n, rfl⟩ : ∃ m, n = m + 1 := ⟨n - 1, by omega⟩
    rw [lp_X7_laysEntries_25, if_neg (by omega)]
    rw [List.drop_of_length_le (by omega)] at e
    simp only [entF, List.append_nil] at e
    subst e
    exact H M hE
  | succ d ih =>
    intro n p M E hn hp hE hrow e
    obtain ⟨n, rfl⟩ : ∃ m, n = m + 1 := ⟨n - 1, by omega⟩
    have hpl : p < B.length := by omega
    rw [entF_drop hpl] at e
    have el := congrArg List.length e
    simp only [List.length_append, List.length_cons] at el
    have hx : B[p]? = some (B.getD p 0) := by
      rw [List.getD_eq_getElem?_getD, List.getElem?_eq_getElem hpl]
      rfl
    rw [lp_X7_laysEntries_25, if_pos (by omega)]
    simp only [jL, Int.reduceAdd]
    rw [hrow p _ hx, of_eq hr (by omega), jU_row (show (253 : Int) ≠ 259 by decide), hE.1.1 253 (by omega) (by omega), Int.add_zero, hR.1, jW_id (by omega), jW_id (by omega)]
    refine ⟨by omega, by omega, by omega, by omega, ?_⟩
    have := ih n (p + 1) (jU (jU (jU M 259 (E.length : Int) (B.getD p 0)) 260 (E.length : Int) id) 261 (E.length : Int) p) (E ++ [(B.getD p 0, id, (p : Int))]) (by omega) (by omega) ⟨⟨fun c h1 h2 => ?_, fun i hi => ?_⟩, fun i y hi => ?_⟩ (fun i x hi => ?_) (by simpa using e)
    · rw [List.length_append] at this
      exact this
    · rw [jU_row (by omega), jU_row (by omega), jU_row (by omega)]
      exact hE.1.1 c h1 h2
    · rw [jU_row (by omega), jU_row (by omega), jU_row (by omega)]
      exact hE.1.2 i hi
    · rw [jU_row (show (259 : Int) ≠ 261 by decide), jU_row (show (259 : Int) ≠ 260 by decide), jU_row (show (260 : Int) ≠ 261 by decide)]
      by_cases q : i < E.length
      · rw [List.getElem?_append_left q] at hi
        rw [jU_in (by omega), jU_in (by omega), jU_in (by omega), jU_row (by decide), jU_row (by decide), jU_row (by decide)]
        exact hE.2 i y hi
      · have hz : i = E.length := by
          have := (List.getElem?_eq_some_iff.mp hi).1
          simp at this
          omega
        subst hz
        have : y = (B.getD p 0, id, (p : Int)) := by simpa using hi.symm
        subst this
        simp [jU]
    · rw [jU_row (by decide), jU_row (by decide), jU_row (by decide)]
      exact hrow i x hi
theorem fm_len {α : Type} {g : Int → List α} {I : List Int} (h : ∀ id ∈ I, (g id).length ≤ 20) : (I.flatMap g).length ≤ 20 * I.length := by
  induction I with
  | nil => simp
  | cons x I ih =>
    have h1 := ih (fun y hy => h y (by simp [hy]))
    have h2 := h x (by simp)
    rw [List.flatMap_cons, List.length_append, List.length_cons]
    omega
/-- the entries in the reference's order of the records -/
def entO (s : aS) (c : Int) (O : List Int) : List eE := O.flatMap (fun id => entF id 0 (colS s id c))
theorem entO_perm {s : aS} {c : Int} {O : List Int} (h : O.Perm (sI s)) : (entO s c O).Perm (allE s c) := h.flatMap_right _
theorem MO.entlen {M : jM} {s : aS} {O : List Int} {c : Int} (h : MO M 253 0 s O) (hc : sCol c) : (entO s c O).length ≤ 200 := by
  have hl := h.len
  have : (entO s c O).length ≤ 20 * O.length := fm_len (fun id hid => by
    obtain ⟨i, hi⟩ := List.getElem?_of_mem hid
    rw [entF_len]
    exact (h.cok hi hc).1)
  omega
theorem lays_lp2 {N : Nat} {M0 : jM} {s : aS} {O : List Int} {c : Int} {kx : Int → jM → Prop} (hN : 5000 ≤ N) (h : MO M0 253 0 s O) (hc : sCol c) (H : ∀ M', EM M0 M' (entO s c O) → kx (entO s c O).length M') :
    ∀ (d n p : Nat) (M : jM) (E : List eE), d < n → p + d = O.length → EM M0 M E → E ++ entO s c (O.drop p) = entO s c O → lp_X7_laysEntries_4 N 252 c kx n E.length p M := by
  have hl := h.len
  have hle := h.entlen hc
  intro d
  induction d with
  | zero =>
    intro n p M E hn hp hE e
    obtain ⟨n, rfl⟩ : ∃ m, n = m + 1 := ⟨n - 1, by omega⟩
    have hM := hE.1.MO h
    rw [lp_X7_laysEntries_4]
    have hm : M 253 0 = (O.length : Nat) := by rw [hM.2.1, h.len.1]
    simp only [Int.reduceAdd, hm]
    rw [if_neg (by omega)]
    rw [List.drop_of_length_le (by omega)] at e
    simp only [entO, List.flatMap_nil, List.append_nil] at e
    refine ⟨by omega, ?_⟩
    rw [e]
    exact H M (by rw [show entO s c O = E from e.symm]; exact hE)
  | succ d ih =>
    intro n p M E hn hp hE e
    obtain ⟨n, rfl⟩ : ∃ m, n = m + 1 := ⟨n - 1, by omega⟩
    have hM := hE.1.MO h
    have hpl : p < O.length := by omega
    have hi : O[p]? = some (O.getD p 0) := by
      rw [List.getD_eq_getElem?_getD, List.getElem?_eq_getElem hpl]
      rfl
    have hr := h.rec hi
    have hcok := h.cok hi hc
    have ed : entO s c (O.drop p) = entF (O.getD p 0) 0 (colS s (O.getD p 0) c) ++ entO s c (O.drop (p + 1)) := by
      rw [drop_at hi]
      rfl
    rw [ed] at e
    have el := congrArg List.length e
    simp only [List.length_append, entF_len2] at el
    rw [lp_X7_laysEntries_4]
    have hm : M 253 0 = (O.length : Nat) := by rw [hM.2.1, h.len.1]
    simp only [Int.reduceAdd, hm]
    rw [if_pos (by omega)]
    refine ⟨by omega, tells_k hN hM hi hc (fun M1 h1 => ?_)⟩
    have hE1 := hE.sm h1
    refine lays_lp1 (C := E ++ entF (O.getD p 0) 0 (colS s (O.getD p 0) c)) hr.1 hr.2.1 hcok.1 (by rw [List.length_append, entF_len]; omega) (fun M2 h2 => ?_) (colS s (O.getD p 0) c).length N 0 M1 E (by omega) (by omega) hE1 h1.2.2.2 (by simp)
    simp (disch := omega) only [jL, jW_id]
    exact ih n (p + 1) M2 _ (by omega) (by omega) h2 (by simpa using e)
theorem laysEntries_k {N : Nat} {M : jM} {s : aS} {O : List Int} {c : Int} {k : Int → jM → Prop} (hN : 5000 ≤ N) (h : MO M 253 0 s O) (hc : sCol c) (H : ∀ M', EM M M' (entO s c O) → k (entO s c O).length M') : w_X7_laysEntries N M 252 c k := by
  have hl := h.len
  exact lays_lp2 (E := []) hN h hc H O.length N 0 M (by omega) (by omega) ⟨wf.rfl, fun i e hi => by simp at hi⟩ (by simp)
theorem entO_len {s : aS} {c : Int} {O : List Int} (h : O.Perm (sI s)) : (entO s c O).length = (allX s c).length := by
  rw [(entO_perm h).length_eq, ← allE_fst, List.length_map]
theorem ms_exploded {N : Nat} {M : jM} {a : aA} {c : Int} {k : Int → jM → Prop} (hN : 5000 ≤ N) (hM : MR M a) (H : ∀ M', frM M M' → MR M' a → k (a_exploded a c) M') : w_X7_exploded N M 252 c k := by
  unfold w_X7_exploded
  obtain ⟨O, hO⟩ := MS_iff.mp hM.now
  unfold a_exploded at H
  rw [isColumn_eq]
  simp only [b01, ite_not]
  by_cases hc : sCol c
  · rw [if_neg (not_not_intro hc)] at H
    rw [if_pos hc]
    refine laysEntries_k hN hO hc (fun M' h' => ?_)
    rw [entO_len hO.2.2.1]
    exact H M' h'.1.frM (hM.wf h'.1)
  · rw [if_pos hc] at H
    rw [if_neg hc]
    exact H M wf.rfl.frM hM
/-! sums -/
theorem perm_sum {X Y : List Int} (h : X.Perm Y) : X.sum = Y.sum := by
  induction h with
  | nil => rfl
  | cons x h ih => simp only [List.sum_cons]; rw [ih]
  | swap x y l => simp only [List.sum_cons]; omega
  | trans h1 h2 a b => exact a.trans b
theorem fm_sum {g : Int → List Int} {I : List Int} : (I.flatMap g).sum = (I.map (fun id => (g id).sum)).sum := by
  induction I with
  | nil => rfl
  | cons x I ih => rw [List.flatMap_cons, List.sum_append, ih, List.map_cons, List.sum_cons]
def sumG (s : aS) (c l : Int) : Int → List Int := fun id => if l = -1 ∨ sL s l id = true then colS s id c else []
theorem sumG_all {s : aS} {c l : Int} {O : List Int} (h : O.Perm (sI s)) : (O.flatMap (sumG s c l)).sum = sumL s c l := by
  rw [perm_sum (h.flatMap_right _), fm_sum]
  unfold sumL sumG
  congr 1
  apply List.map_congr_left
  intro id _
  split <;> rfl
theorem sumIn_lp1 {M : jM} {D : List Int} {kx : Int → Prop} {C : List Int} {B : List Int} (hB : B.length ≤ 20) (hrow : ∀ (i : Nat) (x : Int), B[i]? = some x → M 258 i = x) (hC : C.length ≤ 200) (hb : ∀ x ∈ C, cBig x) (H : kx (D ++ B).sum) :
    ∀ (d n p : Nat) (A E : List Int), d < n → p + d = B.length → A ++ B.drop p = D ++ B → A ++ B.drop p ++ E = C → lp_X7_sumIn_51 252 B.length M kx n A.sum p := by
  intro d
  induction d with
  | zero =>
    intro n p A E hn hp e0 e
    obtain ⟨n, rfl⟩ : ∃ m, n = m + 1 := ⟨n - 1, by omega⟩
    rw [lp_X7_sumIn_51, if_neg (by omega)]
    rw [List.drop_of_length_le (by omega), List.append_nil] at e0
    rw [e0]
    exact H
  | succ d ih =>
    intro n p A E hn hp e0 e
    obtain ⟨n, rfl⟩ : ∃ m, n = m + 1 := ⟨n - 1, by omega⟩
    have hpl : p < B.length := by omega
    have hx : B[p]? = some (B.getD p 0) := by
      rw [List.getD_eq_getElem?_getD, List.getElem?_eq_getElem hpl]
      rfl
    rw [lp_X7_sumIn_51, if_pos (by omega)]
    simp only [jL, Int.reduceAdd]
    rw [hrow p _ hx]
    rw [drop_at hx] at e e0
    have e2 : (A ++ [B.getD p 0]) ++ B.drop (p + 1) ++ E = C := by simpa using e
    have hlen : (A ++ [B.getD p 0]).length ≤ C.length := by rw [← e2]; simp
    have hb2 := sum_bd (B := A ++ [B.getD p 0]) (fun x hx => hb x (by rw [← e2]; simp only [List.mem_append] at hx ⊢; exact Or.inl (Or.inl hx)))
    have es : (A ++ [B.getD p 0]).sum = A.sum + B.getD p 0 := by simp
    rw [← es, jW_id (a := (A ++ [B.getD p 0]).sum) (by omega), jW_id (by omega)]
    exact ⟨by omega, ih n (p + 1) _ E (by omega) (by omega) (by simpa using e0) e2⟩
theorem sumIn_lp2 {N : Nat} {M0 : jM} {s : aS} {O : List Int} {c l : Int} {kx : Int → jM → Prop} (hN : 5000 ≤ N) (h : MO M0 253 0 s O) (hc : sCol c) (hl : l = -1 ∨ sLst l) (H : ∀ M', wf M0 M' → kx (O.flatMap (sumG s c l)).sum M') :
    ∀ (d n p : Nat) (M : jM) (A : List Int), d < n → p + d = O.length → wf M0 M → A ++ (O.drop p).flatMap (sumG s c l) = O.flatMap (sumG s c l) → lp_X7_sumIn_5 N 252 c l kx n A.sum p M := by
  have hlen := h.len
  have hg : ∀ id ∈ O, (sumG s c l id).length ≤ 20 ∧ ∀ x ∈ sumG s c l id, cBig x := fun id hid => by
    obtain ⟨i, hi⟩ := List.getElem?_of_mem hid
    have q := h.cok hi hc
    unfold sumG
    split
    · exact q
    · simp
  have hCl : (O.flatMap (sumG s c l)).length ≤ 200 := by
    have : (O.flatMap (sumG s c l)).length ≤ 20 * O.length := fm_len (fun id hid => (hg id hid).1)
    omega
  have hCb : ∀ x ∈ O.flatMap (sumG s c l), cBig x := fun x hx => by
    obtain ⟨id, hid, hx⟩ := List.mem_flatMap.mp hx
    exact (hg id hid).2 x hx
  intro d
  induction d with
  | zero =>
    intro n p M A hn hp hW e
    obtain ⟨n, rfl⟩ : ∃ m, n = m + 1 := ⟨n - 1, by omega⟩
    have hM := hW.MO h
    rw [lp_X7_sumIn_5]
    have hm : M 253 0 = (O.length : Nat) := by rw [hM.2.1, h.len.1]
    simp only [Int.reduceAdd, hm]
    rw [if_neg (by omega)]
    rw [List.drop_of_length_le (by omega)] at e
    simp only [List.flatMap_nil, List.append_nil] at e
    rw [e]
    exact ⟨by omega, H M hW⟩
  | succ d ih =>
    intro n p M A hn hp hW e
    obtain ⟨n, rfl⟩ : ∃ m, n = m + 1 := ⟨n - 1, by omega⟩
    have hM := hW.MO h
    have hpl : p < O.length := by omega
    have hi : O[p]? = some (O.getD p 0) := by
      rw [List.getD_eq_getElem?_getD, List.getElem?_eq_getElem hpl]
      rfl
    have hr := hM.rec hi
    have hid := h.1.2.2.1 _ hr.2.2
    have hgp := hg _ (List.mem_of_getElem? hi)
    have hcok := h.cok hi hc
    have ed : (O.drop p).flatMap (sumG s c l) = sumG s c l (O.getD p 0) ++ (O.drop (p + 1)).flatMap (sumG s c l) := by
      rw [drop_at hi, List.flatMap_cons]
    rw [ed] at e
    rw [lp_X7_sumIn_5]
    have hm : M 253 0 = (O.length : Nat) := by rw [hM.2.1, h.len.1]
    simp only [Int.reduceAdd, hm]
    rw [if_pos (by omega)]
    refine ⟨by omega, ?_⟩
    simp only [jL]
    have yes : (l = -1 ∨ sL s l (O.getD p 0) = true) → w_X7_tells N M 252 p c (fun x17 M9 => lp_X7_sumIn_51 252 x17 M9 (fun (x12 : Int) => (lp_X7_sumIn_5 N 252 c l kx n x12 (jW ((p : Int) + 1)) M9)) N A.sum 0) := fun z => by
      have eg : sumG s c l (O.getD p 0) = colS s (O.getD p 0) c := if_pos z
      rw [eg] at e
      refine tells_k hN hM hi hc (fun M1 h1 => ?_)
      refine sumIn_lp1 (C := O.flatMap (sumG s c l)) (D := A) hcok.1 h1.2.2.2 hCl hCb ?_ (colS s (O.getD p 0) c).length N 0 A _ (by omega) (by omega) rfl (by simpa using e)
      rw [jW_id (by omega)]
      exact ih n (p + 1) M1 _ (by omega) (by omega) (hW.tr h1.1) (by simpa using e)
    have no : ¬ (l = -1 ∨ sL s l (O.getD p 0) = true) → lp_X7_sumIn_51 252 0 M (fun (x12 : Int) => (lp_X7_sumIn_5 N 252 c l kx n x12 (jW ((p : Int) + 1)) M)) N A.sum 0 := fun z => by
      have eg : sumG s c l (O.getD p 0) = [] := if_neg z
      rw [eg, List.nil_append] at e
      obtain ⟨N', rfl⟩ : ∃ m, N = m + 1 := ⟨N - 1, by omega⟩
      rw [lp_X7_sumIn_51, if_neg (by omega), jW_id (by omega)]
      exact ih n (p + 1) M A (by omega) (by omega) hW e
    by_cases z1 : l = -1
    · rw [if_pos (by omega)]
      exact yes (Or.inl z1)
    · have hl2 : sLst l := hl.elim (fun z => absurd z z1) (fun z => z)
      rw [if_neg (by omega), of_eq hr.1 (by omega), Int.add_zero, hr.2.1.1, isIn_eq hM hl2 hid.1 hid.2]
      simp only [bI_0]
      by_cases z2 : sL s l (O.getD p 0) = true
      · rw [if_neg (by rw [z2]; decide)]
        exact yes (Or.inr z2)
      · rw [if_pos (by simpa using z2)]
        exact no (fun z => z.elim z1 z2)
theorem sumIn_k {N : Nat} {M : jM} {s : aS} {O : List Int} {c l : Int} {k : Int → jM → Prop} (hN : 5000 ≤ N) (h : MO M 253 0 s O) (hc : sCol c) (hl : l = -1 ∨ sLst l) (H : ∀ M', wf M M' → k (sumL s c l) M') : w_X7_sumIn N M 252 c l k := by
  have hlen := h.len
  exact sumIn_lp2 (A := []) (kx := k) hN h hc hl (fun M' h' => by rw [sumG_all h.2.2.1]; exact H M' h') O.length N 0 M (by omega) (by omega) wf.rfl (by simp)
theorem ms_total {N : Nat} {M : jM} {a : aA} {c l : Int} {k : Int → jM → Prop} (hN : 5000 ≤ N) (hM : MR M a) (H : ∀ M', frM M M' → MR M' a → k (a_total a c l) M') : w_X7_total N M 252 c l k := by
  unfold w_X7_total
  obtain ⟨O, hO⟩ := MS_iff.mp hM.now
  unfold a_total at H
  simp only [isColumn_eq, isList_eq, b01, ite_not]
  by_cases h1 : sCol c
  · rw [if_pos h1]
    have hk : ∀ hl : l = -1 ∨ sLst l, w_X7_sumIn N M 252 c l (fun x2 M3 => (k x2 M3)) := by
      intro hl
      rw [if_neg (fun z => z.elim (fun z => z h1) (fun z => z hl))] at H
      exact sumIn_k hN hO h1 hl (fun M1 e => H M1 e.frM (hM.wf e))
    by_cases h2 : l = -1
    · rw [if_pos h2]
      exact hk (Or.inl h2)
    · rw [if_neg h2]
      by_cases h3 : sLst l
      · rw [if_pos h3]
        exact hk (Or.inr h3)
      · rw [if_neg h3]
        rw [if_pos (Or.inr (fun z => z.elim h2 h3))] at H
        exact H M wf.rfl.frM hM
  · rw [if_neg h1]
    rw [if_pos (Or.inl h1)] at H
    exact H M wf.rfl.frM hM
theorem ms_mean {N : Nat} {M : jM} {a : aA} {c : Int} {k : UInt32 → jM → Prop} (hN : 5000 ≤ N) (hM : MR M a) (H : ∀ M', frM M M' → MR M' a → meanP (aNow a) c (fun f => k f M')) : w_X7_mean N M 252 c k := by
  unfold w_X7_mean
  obtain ⟨O, hO⟩ := MS_iff.mp hM.now
  simp only [isColumn_eq, b01, ite_not]
  unfold meanP at H
  by_cases h1 : sCol c
  · rw [if_pos h1]
    simp only [if_neg (not_not_intro h1)] at H
    refine laysEntries_k hN hO h1 (fun M1 e => ?_)
    have hX1 : MR M1 a := hM.wf e.1
    rw [entO_len hO.2.2.1]
    by_cases h2 : (allX (aNow a) c).length = 0
    · rw [if_pos (by omega)]
      have := H M1 e.1.frM hX1
      rw [if_pos h2] at this
      exact this
    · rw [if_neg (by omega)]
      refine sumIn_k hN (e.1.MO hO) h1 (Or.inl rfl) (fun M2 e2 => ?_)
      have := H M2 (e.1.tr e2).frM (hM.wf (e.1.tr e2))
      rw [if_neg h2] at this
      exact this
  · rw [if_neg h1]
    have := H M wf.rfl.frM hM
    rw [if_pos h1] at this
    exact this
