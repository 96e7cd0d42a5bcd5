/-! LISTS AS WORDS OF BITS -/
theorem bs_l : ∀ n, n < 32 → ((nI n &&& 31).toBitVec.smod 32).toNat = n := by decide +kernel
theorem bs_and (a b : Nat) : nI a &&& nI b = nI (a &&& b) := by
  apply Int32.toBitVec_inj.1
  show BitVec.ofNat 32 a &&& BitVec.ofNat 32 b = BitVec.ofNat 32 (a &&& b)
  apply BitVec.eq_of_getLsbD_eq
  intro i hi
  simp [hi]
theorem bs_or (a b : Nat) : nI a ||| nI b = nI (a ||| b) := by
  apply Int32.toBitVec_inj.1
  show BitVec.ofNat 32 a ||| BitVec.ofNat 32 b = BitVec.ofNat 32 (a ||| b)
  apply BitVec.eq_of_getLsbD_eq
  intro i hi
  simp [hi]
theorem bs_xor (a b : Nat) : nI a ^^^ nI b = nI (a ^^^ b) := by
  apply Int32.toBitVec_inj.1
  show BitVec.ofNat 32 a ^^^ BitVec.ofNat 32 b = BitVec.ofNat 32 (a ^^^ b)
  apply BitVec.eq_of_getLsbD_eq
  intro i hi
  simp [hi]
theorem bs_get {n b : Nat} (hn : n < 2 ^ 31) (hb : b < 31) : jAnd (jShr (n : Int) (b : Int)) 1 = ((n / 2 ^ b % 2 : Nat) : Int) := by
  unfold jAnd jShr
  rw [jI_of, jI_nat, jI_nat, pk_shrN hn _ b (bs_l b (by omega)), show jI 1 = nI 1 from rfl, bs_and, Nat.and_one_is_mod, nI_toInt (by omega)]
theorem bs_put {n b : Nat} {v : Bool} (hn : n < 2 ^ 30) (hb : b < 30) : jOr (jAnd (n : Int) (jXor (jShl 1 (b : Int)) (-1))) (if v then jShl 1 (b : Int) else 0) = (((n &&& (2 ^ b ^^^ (2 ^ 32 - 1))) ||| (if v then 2 ^ b else 0) : Nat) : Int) := by
  have hp : 2 ^ b < 2 ^ 30 := Nat.pow_lt_pow_right (by omega) hb
  have h1 : jI (jShl 1 (b : Int)) = nI (2 ^ b) := by
    unfold jShl
    rw [jI_of, jI_nat, show jI 1 = nI 1 from rfl, pk_shlN _ b (bs_l b (by omega)) (by omega), Nat.one_mul]
  have h2 : jI (if v then jShl 1 (b : Int) else 0) = nI (if v then 2 ^ b else 0) := by
    cases v
    · rfl
    · exact h1
  have hlt : ((n &&& (2 ^ b ^^^ (2 ^ 32 - 1))) ||| (if v then 2 ^ b else 0)) < 2 ^ 30 := by
    refine Nat.or_lt_two_pow (Nat.lt_of_le_of_lt Nat.and_le_left hn) ?_
    cases v
    · simp
    · simpa using hp
  unfold jOr
  rw [h2]
  unfold jAnd jXor
  rw [jI_of, jI_of, h1, jI_nat, show jI (-1) = nI (2 ^ 32 - 1) from by decide +kernel, bs_xor, bs_and, bs_or, nI_toInt (by omega)]
theorem bs_word {n b j : Nat} {v : Bool} (hj : j < 32) : ((n &&& (2 ^ b ^^^ (2 ^ 32 - 1))) ||| (if v then 2 ^ b else 0)).testBit j = if j = b then v else n.testBit j := by
  rw [Nat.testBit_or, Nat.testBit_and, Nat.testBit_xor, Nat.testBit_two_pow_sub_one, Nat.testBit_two_pow]
  by_cases e : b = j
  · subst e
    cases v <;> simp [hj]
  · have e2 : ¬ j = b := fun z => e z.symm
    cases v <;> simp [hj, e, e2, Nat.testBit_two_pow]
theorem MO.word {M : jM} {s : aS} {O : List Int} {l w : Int} (h : MO M 253 0 s O) (hl : sLst l) (w0 : 0 ≤ w) (w1 : w < 4) : ∃ n : Nat, M 253 (23 + 4 * l + w) = n ∧ n < 2 ^ 30 ∧ ∀ i : Nat, i < 30 → 30 * w + i < 100 → n.testBit i = sL s l (30 * w + i) := by
  have := h.2.2.2.2.2.2 l w hl w0 w1
  simp only [Int.zero_add] at this
  exact this
theorem isIn_eq {M : jM} {s : aS} {O : List Int} {l i : Int} (h : MO M 253 0 s O) (hl : sLst l) (h0 : 0 ≤ i) (h1 : i < 100) (k : Int → Prop) : w_X7_isIn M 252 l i k = k (bI (sL s l i)) := by
  unfold w_X7_isIn
  rw [jDiv_i h0 (by omega) (by omega) (by omega), jRem_i h0 (by omega) (by omega) (by omega), jW_id (a := 4 * l) (by omega), jW_id (a := 23 + 4 * l) (by omega), jW_id (by omega)]
  obtain ⟨n, e, hn, hb⟩ := h.word hl (w := i / 30) (by omega) (by omega)
  simp only [Int.reduceAdd]
  have hbit := hb (i % 30).toNat (by omega) (by omega)
  rw [show 30 * (i / 30) + ((i % 30).toNat : Int) = i by omega, Nat.testBit_eq_decide_div_mod_eq] at hbit
  have ea : jAnd (jShr (M 253 (23 + 4 * l + i / 30)) (i % 30)) 1 = ((n / 2 ^ (i % 30).toNat % 2 : Nat) : Int) := by
    rw [e]
    conv => lhs; rw [show i % 30 = ((i % 30).toNat : Int) by omega]
    rw [bs_get (by omega) (by omega)]
  by_cases z : sL s l i = true
  · rw [z] at hbit ⊢
    have hq := of_decide_eq_true hbit
    rw [if_pos (by rw [ea]; omega)]
    exact propext ⟨fun q => q.2, fun q => ⟨by omega, q⟩⟩
  · have z2 : sL s l i = false := by simpa using z
    rw [z2] at hbit ⊢
    have hq := of_decide_eq_false hbit
    rw [if_neg (by rw [ea]; omega)]
    exact propext ⟨fun q => q.2, fun q => ⟨by omega, q⟩⟩
/-- one word of a list written anew -/
theorem MO.setWord {M : jM} {s : aS} {O : List Int} {l w : Int} {n' : Nat} {g : Int → Bool} (h : MO M 253 0 s O) (hl : sLst l) (w0 : 0 ≤ w) (w1 : w < 4) (hn : n' < 2 ^ 30) (hb : ∀ i : Nat, i < 30 → 30 * w + i < 100 → n'.testBit i = g (30 * w + i)) (hg : ∀ i : Int, 0 ≤ i → i < 100 → i / 30 ≠ w → g i = sL s l i) : MO (jU M 253 (23 + 4 * l + w) n') 253 0 (setL s l g) O := by
  have hlen := h.len
  obtain ⟨h1, h2, h3, h4, h5, h6, h7⟩ := h
  refine ⟨h1, by rw [jU_in (by omega)]; exact h2, h3, fun i x hi => ?_, fun f hf => by rw [jU_in (by omega)]; exact h5 f hf, fun q hq => by rw [jU_in (by omega), jU_in (by omega), jU_in (by omega)]; exact h6 q hq, fun l' w' hl' w0' w1' => ?_⟩
  · exact (h4 i x hi).move (fun j j0 j1 => jU_in (by omega))
  · by_cases e : l' = l
    · subst e
      by_cases e2 : w' = w
      · subst e2
        refine ⟨n', by simp [jU], hn, fun i i0 i1 => ?_⟩
        rw [hb i i0 i1]
        exact (congrFun (uI_self _ _ _) _).symm
      · obtain ⟨n, a1, a2, a3⟩ := h7 l' w' hl' w0' w1'
        refine ⟨n, by rw [jU_in (by omega)]; exact a1, a2, fun i i0 i1 => ?_⟩
        rw [a3 i i0 i1, ← hg _ (by omega) i1 (by omega)]
        exact (congrFun (uI_self _ _ _) _).symm
    · obtain ⟨n, a1, a2, a3⟩ := h7 l' w' hl' w0' w1'
      refine ⟨n, by rw [jU_in (by omega)]; exact a1, a2, fun i i0 i1 => ?_⟩
      rw [a3 i i0 i1]
      exact (congrFun (uI_ne (g := sL s) (v := g) e) _).symm
theorem MO.lcong {M : jM} {s : aS} {O : List Int} {l : Int} {g g' : Int → Bool} (h : MO M 253 0 (setL s l g) O) (e : ∀ i : Int, 0 ≤ i → i < 100 → g' i = g i) : MO M 253 0 (setL s l g') O := by
  obtain ⟨h1, h2, h3, h4, h5, h6, h7⟩ := h
  refine ⟨h1, h2, h3, h4, h5, h6, fun l' w hl' w0 w1 => ?_⟩
  obtain ⟨n, a1, a2, a3⟩ := h7 l' w hl' w0 w1
  refine ⟨n, a1, a2, fun i i0 i1 => ?_⟩
  rw [a3 i i0 i1]
  by_cases z : l' = l
  · subst z
    show uI (sL s) l' g l' _ = uI (sL s) l' g' l' _
    rw [uI_self, uI_self]
    exact (e _ (by omega) i1).symm
  · show uI (sL s) l g l' _ = uI (sL s) l g' l' _
    rw [uI_ne z, uI_ne z]
theorem uI_set {α : Type} {g : Int → α} {l : Int} {x y : α} : uI (uI g l x) l y = uI g l y := by
  funext j
  simp only [uI]
  split <;> rfl
theorem setL_set {s : aS} {l : Int} {g g' : Int → Bool} : setL (setL s l g) l g' = setL s l g' := by
  show (sI s, sK s, sF s, sA s, sC s, uI (uI (sL s) l g) l g') = (sI s, sK s, sF s, sA s, sC s, uI (sL s) l g')
  rw [uI_set]
theorem laysIn_k {M : jM} {s : aS} {O : List Int} {l i : Int} {v : Bool} {k : jM → Prop} (h : MO M 253 0 s O) (hl : sLst l) (h0 : 0 ≤ i) (h1 : i < 100) (H : ∀ M', (∀ c : Int, c ≠ 253 → M' c = M c) → MO M' 253 0 (setL s l (uI (sL s l) i v)) O → k M') : w_X7_laysIn M 252 l i (bI v) k := by
  unfold w_X7_laysIn
  rw [jDiv_i h0 (by omega) (by omega) (by omega), jRem_i h0 (by omega) (by omega) (by omega), jW_id (a := 4 * l) (by omega), jW_id (a := 23 + 4 * l) (by omega), jW_id (by omega)]
  obtain ⟨n, e, hn, hb⟩ := h.word hl (w := i / 30) (by omega) (by omega)
  simp only [Int.reduceAdd, jL]
  refine ⟨by omega, ?_⟩
  have hput := bs_put (v := v) hn (b := (i % 30).toNat) (by omega)
  have hei : i % 30 = ((i % 30).toNat : Int) := by omega
  have hp2 : 2 ^ (i % 30).toNat < 2 ^ 30 := Nat.pow_lt_pow_right (by omega) (by omega)
  have hlt : ((n &&& (2 ^ (i % 30).toNat ^^^ (2 ^ 32 - 1))) ||| (if v then 2 ^ (i % 30).toNat else 0)) < 2 ^ 30 := by
    refine Nat.or_lt_two_pow (Nat.lt_of_le_of_lt Nat.and_le_left hn) ?_
    cases v
    · simp
    · simpa using hp2
  have hset := h.setWord (g := uI (sL s l) i v) hl (w := i / 30) (by omega) (by omega) hlt (fun j j0 j1 => ?_) (fun j j0 j1 hj => uI_ne (by rintro rfl; exact hj rfl))
  · rw [← hput, ← e, ← hei] at hset
    cases v
    · rw [if_pos (show bI false = 0 from rfl)]
      exact ⟨by omega, H _ (fun c hc => jU_row hc) hset⟩
    · rw [if_neg (show ¬ bI true = 0 by decide)]
      exact ⟨by omega, H _ (fun c hc => jU_row hc) hset⟩
  · rw [bs_word (by omega)]
    by_cases z : j = (i % 30).toNat
    · rw [if_pos z, show 30 * (i / 30) + (j : Int) = i by omega, uI_self]
    · rw [if_neg z, uI_ne (by omega), hb j j0 j1]
theorem sizeOf_lp {M : jM} {s : aS} {O : List Int} {l : Int} {kx : Int → Prop} (h : MO M 253 0 s O) (hl : sLst l) (H : kx (nList s l)) : ∀ (d n p : Nat), d < n → p + d = 100 → lp_X7_sizeOf_4 252 l M kx n ((List.range p).countP (fun i : Nat => sL s l i) : Nat) p := by
  intro d
  induction d with
  | zero =>
    intro n p hn hp
    obtain ⟨n, rfl⟩ : ∃ m, n = m + 1 := ⟨n - 1, by omega⟩
    have : p = 100 := by omega
    subst this
    rw [lp_X7_sizeOf_4, if_neg (by omega)]
    exact H
  | succ d ih =>
    intro n p hn hp
    obtain ⟨n, rfl⟩ : ∃ m, n = m + 1 := ⟨n - 1, by omega⟩
    have hle : (List.range p).countP (fun i : Nat => sL s l i) ≤ p := Nat.le_trans List.countP_le_length (by simp)
    rw [lp_X7_sizeOf_4, if_pos (by omega), isIn_eq h hl (by omega) (by omega)]
    have ih := ih n (p + 1) (by omega) (by omega)
    rw [range_countP] at ih
    simp (disch := omega) only [jL, jW_id]
    by_cases z : sL s l p = true
    · simpa [z, bI] using ih
    · simpa [z, bI] using ih
theorem sizeOf_k {N : Nat} {M : jM} {s : aS} {O : List Int} {l : Int} {k : Int → Prop} (hN : 5000 ≤ N) (h : MO M 253 0 s O) (hl : sLst l) (H : k (nList s l)) : w_X7_sizeOf N M 252 l k := sizeOf_lp h hl H 100 N 0 (by omega) (by omega)
theorem ms_listSize {N : Nat} {M : jM} {a : aA} {l : Int} {k : Int → Prop} (hN : 5000 ≤ N) (hM : MR M a) (H : k (a_listSize a l)) : w_X7_listSize N M 252 l k := by
  unfold w_X7_listSize
  obtain ⟨O, hO⟩ := MS_iff.mp hM.now
  unfold a_listSize at H
  rw [isList_eq]
  simp only [b01, ite_not]
  by_cases hl : sLst l
  · rw [if_neg (not_not_intro hl)] at H
    rw [if_pos hl]
    exact sizeOf_k hN hO hl H
  · rw [if_pos hl] at H
    rw [if_neg hl]
    exact H
/-! listAt -/
def fA (P : Nat → Bool) (p i : Nat) : Int := (((List.range p).filter P)[i]?).elim (-1000007) (fun j => (j : Int))
theorem fA_no {P : Nat → Bool} {p i : Nat} (h : ¬ (P p = true ∧ (List.range p).countP P = i)) : fA P (p + 1) i = fA P p i := by
  unfold fA
  rw [List.range_succ, List.filter_append]
  by_cases z : P p = true
  · have hc : (List.range p).countP P ≠ i := fun q => h ⟨z, q⟩
    rw [List.countP_eq_length_filter] at hc
    have e : [p].filter P = [p] := by simp [z]
    rw [e]
    congr 1
    rcases Nat.lt_or_ge i ((List.range p).filter P).length with y | y
    · rw [List.getElem?_append_left y]
    · rw [List.getElem?_append_right y, List.getElem?_eq_none (by simp; omega), List.getElem?_eq_none y]
  · have e : [p].filter P = [] := by simp [z]
    rw [e, List.append_nil]
theorem fA_yes {P : Nat → Bool} {p i : Nat} (h : P p = true) (hc : (List.range p).countP P = i) : fA P (p + 1) i = p := by
  unfold fA
  rw [List.range_succ, List.filter_append]
  rw [List.countP_eq_length_filter] at hc
  have e : [p].filter P = [p] := by simp [h]
  rw [e, List.getElem?_append_right (by omega), hc, Nat.sub_self]
  rfl
theorem mlistAt_lp {M : jM} {s : aS} {O : List Int} {l i : Int} {kx : Int → Prop} (h : MO M 253 0 s O) (hl : sLst l) (hi : 0 ≤ i) (H : kx (fA (fun j : Nat => sL s l j) 100 i.toNat)) : ∀ (d n p : Nat), d < n → p + d = 100 → lp_X7_listAt_26 252 l i M kx n (fA (fun j : Nat => sL s l j) p i.toNat) ((List.range p).countP (fun j : Nat => sL s l j) : Nat) p := by
  intro d
  induction d with
  | zero =>
    intro n p hn hp
    obtain ⟨n, rfl⟩ : ∃ m, n = m + 1 := ⟨n - 1, by omega⟩
    have : p = 100 := by omega
    subst this
    rw [lp_X7_listAt_26, if_neg (by omega)]
    exact H
  | succ d ih =>
    intro n p hn hp
    obtain ⟨n, rfl⟩ : ∃ m, n = m + 1 := ⟨n - 1, by omega⟩
    have hle : (List.range p).countP (fun i : Nat => sL s l i) ≤ p := Nat.le_trans List.countP_le_length (by simp)
    rw [lp_X7_listAt_26, if_pos (by omega), isIn_eq h hl (by omega) (by omega)]
    have ih := ih n (p + 1) (by omega) (by omega)
    rw [range_countP] at ih
    simp (disch := omega) only [jL, isIn_eq h hl, jW_id]
    by_cases z : sL s l p = true
    · rw [z] at ih ⊢
      have t1 : ¬ bI true = 0 := by decide
      rw [if_pos rfl] at ih
      rw [if_neg t1]
      by_cases y : (((List.range p).countP (fun j : Nat => sL s l j) : Nat) : Int) = i
      · rw [if_pos y, if_neg t1]
        rw [fA_yes z (by omega)] at ih
        exact ih
      · rw [if_neg y, if_neg t1]
        rw [fA_no (by omega)] at ih
        exact ih
    · have z2 : sL s l p = false := by simpa using z
      rw [z2] at ih ⊢
      rw [if_pos (show bI false = 0 from rfl), if_pos (show bI false = 0 from rfl)]
      rw [fA_no (by simp [z2])] at ih
      simpa using ih
theorem ms_listAt {N : Nat} {M : jM} {a : aA} {l i : Int} {k : Int → Prop} (hN : 5000 ≤ N) (hM : MR M a) (H : k (a_listAt a l i)) : w_X7_listAt N M 252 l i k := by
  unfold w_X7_listAt
  obtain ⟨O, hO⟩ := MS_iff.mp hM.now
  unfold a_listAt at H
  rw [isList_eq]
  simp only [b01, ite_not]
  by_cases hl : sLst l
  · rw [if_neg (not_not_intro hl)] at H
    rw [if_pos hl]
    by_cases hi : i < 0
    · rw [if_pos hi] at H ⊢
      exact H
    · rw [if_neg hi] at H ⊢
      exact mlistAt_lp hO hl (by omega) H 100 N 0 (by omega) (by omega)
  · rw [if_pos hl] at H
    rw [if_neg hl]
    exact H
