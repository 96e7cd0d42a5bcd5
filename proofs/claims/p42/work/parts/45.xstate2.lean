/-! copying, adding, dropping -/
/-- the references of a state's row of records -/
def rOK (M : jM) (b : Int) : Prop := (∀ i : Int, 0 ≤ i → i < 10 → ∃ q : Int, 0 ≤ q ∧ q < 10 ∧ M (b + 1) i = b + 2 + 4 * q) ∧ (∀ i j : Int, 0 ≤ i → i < 10 → 0 ≤ j → j < 10 → M (b + 1) i = M (b + 1) j → i = j)
theorem XS.rok {M : jM} {b : Int} {s : aS} (h : XS M b s) : rOK M b := ⟨h.2.2.1, h.2.2.2.1⟩
theorem rOK.apart {M : jM} {b : Int} (h : rOK M b) {i j : Int} (h0 : 0 ≤ i) (h1 : i < 10) (h2 : 0 ≤ j) (h3 : j < 10) (e : i ≠ j) : M (b + 1) i + 4 ≤ M (b + 1) j ∨ M (b + 1) j + 4 ≤ M (b + 1) i := by
  obtain ⟨q, a1, a2, a3⟩ := h.1 i h0 h1
  obtain ⟨t, b1, b2, b3⟩ := h.1 j h2 h3
  have : M (b + 1) i ≠ M (b + 1) j := fun z => e (h.2 i j h0 h1 h2 h3 z)
  omega
theorem rOK.in {M : jM} {b : Int} (h : rOK M b) {i : Int} (h0 : 0 ≤ i) (h1 : i < 10) : b + 2 ≤ M (b + 1) i ∧ M (b + 1) i ≤ b + 38 := by
  obtain ⟨q, a1, a2, a3⟩ := h.1 i h0 h1
  omega
def cpInv (M M1 : jM) (a b : Int) (s : aS) (p : Nat) : Prop := (∀ c : Int, (c < b ∨ b + 47 ≤ c) → M1 c = M c) ∧ M1 (b + 1) = M (b + 1) ∧ M1 b 1 = (sI s).length ∧ ∀ (i : Nat) (id : Int), i < p → (sI s)[i]? = some id → RX M1 (M (b + 1) i) id (sK s id) (sF s id)
theorem copyState_lp {M : jM} {a b : Int} {s : aS} {kx : jM → Prop} (hS : XS M a s) (hb : rOK M b) (hd : a + 47 ≤ b ∨ b + 47 ≤ a) (h : ∀ M2, cpInv M M2 a b s (sI s).length → kx M2) : ∀ (d n p : Nat) (M1 : jM), d < n → p + d = (sI s).length → cpInv M M1 a b s p → lp_X4_copyState_10 b a kx n p M1 := by
  intro d
  induction d with
  | zero =>
    intro n p M1 hn hp hI
    obtain ⟨n, rfl⟩ : ∃ m, n = m + 1 := ⟨n - 1, by omega⟩
    rw [lp_X4_copyState_10, hI.2.2.1, if_neg (by omega)]
    have : p = (sI s).length := by omega
    subst this
    exact h M1 hI
  | succ d ih =>
    intro n p M1 hn hp hI
    obtain ⟨n, rfl⟩ : ∃ m, n = m + 1 := ⟨n - 1, by omega⟩
    have hc := hS.cnt
    rw [lp_X4_copyState_10, hI.2.2.1, if_pos (by omega)]
    obtain ⟨i1, i2, i3, i4⟩ := hI
    obtain ⟨id, hid⟩ : ∃ x, (sI s)[p]? = some x := ⟨_, List.getElem?_eq_getElem (by omega)⟩
    have ha := hS.in (i := p) (by omega) (by omega)
    have hbi := hb.in (i := p) (by omega) (by omega)
    rw [i2, i1 (a + 1) (by omega)]
    refine ⟨by omega, by omega, ?_⟩
    rw [copyRecord_eq (by omega)]
    simp (disch := omega) only [jL, jW_id]
    refine ih n (p + 1) _ (by omega) (by omega) ⟨fun c hcc => ?_, ?_, ?_, fun i jd hi hj => ?_⟩
    · rw [crC_row (by omega)]; exact i1 c hcc
    · rw [crC_row (by omega)]; exact i2
    · rw [crC_row (by omega)]; exact i3
    · by_cases e : i = p
      · subst e
        have : jd = id := by grind
        subst this
        exact crC_RX (by omega) ((hS.rec hj).congr (i1 _ (by omega)) (i1 _ (by omega)) (i1 _ (by omega)) (i1 _ (by omega)))
      · have hap := hb.apart (i := i) (j := p) (by omega) (by omega) (by omega) (by omega) (by omega)
        exact (i4 i jd (by omega) hj).congr (crC_row (by omega)) (crC_row (by omega)) (crC_row (by omega)) (crC_row (by omega))
theorem copyState_k {N : Nat} {M : jM} {a b : Int} {s : aS} {k : jM → Prop} (hN : 100 ≤ N) (hS : XS M a s) (hb : rOK M b) (hd : a + 47 ≤ b ∨ b + 47 ≤ a) (h : ∀ M', (∀ c : Int, (c < b ∨ b + 47 ≤ c) → M' c = M c) → M' (b + 1) = M (b + 1) → XS M' b s → k M') : w_X4_copyState N M b a k := by
  unfold w_X4_copyState
  have hc := hS.cnt
  have e0 : ∀ c : Int, c ≠ b → jU M b 1 (M a 1) c = M c := fun c hcc => jU_row hcc
  simp only [jL]
  refine copyState_lp (M := M) hS hb hd (fun M2 hI => ?_) (sI s).length N 0 _ (by omega) (by omega) ⟨fun c hcc => e0 c (by omega), e0 _ (by omega), by simp [jU]; exact hc.1, fun i id hi => by omega⟩
  obtain ⟨i1, i2, i3, i4⟩ := hI
  simp only [jBc]
  refine ⟨by omega, by omega, by omega, by omega, by omega, ?_⟩
  have row : ∀ c : Int, c < b + 42 ∨ b + 47 ≤ c → jC (jC (jC (jC (jC M2 (a + 42) 0 (b + 42) 0 4) (a + 43) 0 (b + 43) 0 6) (a + 44) 0 (b + 44) 0 6) (a + 45) 0 (b + 45) 0 6) (a + 46) 0 (b + 46) 0 800 c = M2 c := by
    intro c hcc
    rw [jC_row (by omega), jC_row (by omega), jC_row (by omega), jC_row (by omega), jC_row (by omega)]
  have row2 : ∀ c : Int, a ≤ c → c < a + 47 → M2 c = M c := fun c h1 h2 => i1 c (by omega)
  refine h _ (fun c hcc => by rw [row c (by omega)]; exact i1 c hcc) (by rw [row _ (by omega)]; exact i2) ⟨hS.1, by rw [row _ (by omega)]; exact i3, fun i h0 h1 => by rw [row _ (by omega), i2]; exact hb.1 i h0 h1, fun i j h0 h1 h2 h3 => by rw [row _ (by omega), i2]; exact hb.2 i j h0 h1 h2 h3, fun i id hi => ?_, fun f hf => ?_, fun c hcc => ?_, fun l i hl h0 h1 => ?_⟩
  · have hl := hS.lt hi
    have hbi := hb.in (i := i) (by omega) (by omega)
    rw [row (b + 1) (by omega), i2]
    exact (i4 i id hl.1 hi).congr (row _ (by omega)) (row _ (by omega)) (row _ (by omega)) (row _ (by omega))
  · rw [jC_row (by omega), jC_row (by omega), jC_row (by omega), jC_row (by omega)]
    have q := hS.2.2.2.2.2.1 f hf
    simp only [jC, true_and]
    rw [if_pos (by omega), show (0 : Int) + (f - 0) = f by omega, row2 _ (by omega) (by omega)]
    exact q
  · have q := hS.2.2.2.2.2.2.1 c hcc
    refine ⟨?_, ?_, ?_⟩
    · rw [jC_row (by omega), jC_row (by omega), jC_row (by omega)]
      simp only [jC, true_and]
      rw [if_pos (by omega), if_neg (by omega), show (0 : Int) + (c - 0) = c by omega, row2 _ (by omega) (by omega)]
      exact q.1
    · rw [jC_row (by omega), jC_row (by omega)]
      simp only [jC, true_and]
      rw [if_pos (by omega), if_neg (by omega), if_neg (by omega), show (0 : Int) + (c - 0) = c by omega, row2 _ (by omega) (by omega)]
      exact q.2.1
    · rw [jC_row (by omega)]
      simp only [jC, true_and]
      rw [if_pos (by omega), if_neg (by omega), if_neg (by omega), if_neg (by omega), show (0 : Int) + (c - 0) = c by omega, row2 _ (by omega) (by omega)]
      exact q.2.2
  · have q := hS.2.2.2.2.2.2.2 l i hl h0 h1
    simp only [jC, true_and]
    rw [if_pos (by omega), if_neg (by omega), if_neg (by omega), if_neg (by omega), if_neg (by omega), show (0 : Int) + (100 * l + i - 0) = 100 * l + i by omega, row2 _ (by omega) (by omega)]
    exact q
/-! adding: the spare record, the row shifted by one -/
def shU (M : jM) (b lo hi : Int) : jM := fun c i => if c = b + 1 ∧ lo < i ∧ i ≤ hi then M c (i - 1) else M c i
theorem addRecord_lp {M0 : jM} {b id : Int} {I : List Int} {kx : Int → jM → Prop} (hI : I.length ≤ 9) (hrec : ∀ (i : Nat) (x : Int), I[i]? = some x → M0 (M0 (b + 1) i) 0 = x) (hne : ∀ i : Int, 0 ≤ i → i < 10 → M0 (b + 1) i ≠ b + 1) :
    ∀ (p n : Nat), p < n → p ≤ I.length → (∀ (j : Nat) (x : Int), p ≤ j → I[j]? = some x → id < x) → (∀ q : Nat, q ≤ p → (∀ (j : Nat) (x : Int), q ≤ j → I[j]? = some x → id < x) → (q = 0 ∨ ∃ x, I[q - 1]? = some x ∧ x ≤ id) → kx q (shU M0 b q I.length)) → lp_X4_addRecord_30 b id kx n p (shU M0 b p I.length) := by
  intro p
  induction p with
  | zero =>
    intro n hn hp hj h
    obtain ⟨n, rfl⟩ : ∃ m, n = m + 1 := ⟨n - 1, by omega⟩
    rw [lp_X4_addRecord_30, if_pos (by omega)]
    exact h 0 (by omega) hj (Or.inl rfl)
  | succ p ih =>
    intro n hn hp hj h
    obtain ⟨n, rfl⟩ : ∃ m, n = m + 1 := ⟨n - 1, by omega⟩
    rw [lp_X4_addRecord_30, if_neg (by omega)]
    rw [jW_id (by omega), show ((p + 1 : Nat) : Int) - 1 = (p : Int) by omega, jW_id (by omega), show ((p + 1 : Nat) : Int) + -1 = (p : Int) by omega]
    obtain ⟨x, hx⟩ : ∃ x, I[p]? = some x := ⟨_, List.getElem?_eq_getElem (by omega)⟩
    have e1 : shU M0 b ((p + 1 : Nat) : Int) I.length (b + 1) (p : Int) = M0 (b + 1) (p : Int) := by
      unfold shU
      rw [if_neg (by omega)]
    have e2 : shU M0 b ((p + 1 : Nat) : Int) I.length (M0 (b + 1) (p : Int)) 0 = x := by
      have := hne (p : Int) (by omega) (by omega)
      unfold shU
      rw [if_neg (by omega)]
      exact hrec p x hx
    rw [e1, e2]
    refine ⟨by omega, ?_⟩
    by_cases hle : x ≤ id
    · rw [if_pos hle]
      exact h (p + 1) (by omega) hj (Or.inr ⟨x, hx, hle⟩)
    · rw [if_neg hle]
      refine ⟨by omega, by omega, ?_⟩
      simp only [jL]
      have e3 : jU (shU M0 b ((p + 1 : Nat) : Int) I.length) (b + 1) ((p + 1 : Nat) : Int) (M0 (b + 1) (p : Int)) = shU M0 b (p : Int) I.length := by
        funext c i
        simp only [jU, shU]
        grind (splits := 20)
      rw [e3]
      refine ih n (by omega) (by omega) (fun j y hjp hy => ?_) (fun q hq => h q (by omega))
      by_cases e : j = p
      · subst e
        have : y = x := by grind
        omega
      · exact hj j y (by omega) hy
theorem findIdx_at {I : List Int} {id : Int} {q : Nat} (hq : q ≤ I.length) (h1 : ∀ (j : Nat) (x : Int), q ≤ j → I[j]? = some x → id < x) (h2 : ∀ (j : Nat) (x : Int), j < q → I[j]? = some x → x ≤ id) : I.findIdx (fun j => decide (id < j)) = q := by
  rcases Nat.lt_or_ge q I.length with h | h
  · rw [List.findIdx_eq h]
    refine ⟨by simp; exact h1 q _ (by omega) (List.getElem?_eq_getElem h), fun j hj => ?_⟩
    simp
    exact h2 j _ hj (List.getElem?_eq_getElem (by omega))
  · have : q = I.length := by omega
    subst this
    rw [List.findIdx_eq_length]
    intro x hx
    obtain ⟨j, hj⟩ := List.getElem?_of_mem hx
    simp
    exact h2 j x (by grind) hj
theorem sorted_le {I : List Int} (h : I.Pairwise (· < ·)) {i j : Nat} {x y : Int} (hij : i ≤ j) (hx : I[i]? = some x) (hy : I[j]? = some y) : x ≤ y := by
  have := List.pairwise_iff_getElem.mp h
  by_cases e : i = j
  · subst e
    have : x = y := by grind
    omega
  · have : x < y := by grind
    omega
theorem ins_at {I : List Int} {id : Int} {q k : Nat} {y : Int} (hq : q ≤ I.length) (h : (I.insertIdx q id)[k]? = some y) : (k < q ∧ I[k]? = some y) ∨ (k = q ∧ y = id) ∨ (q < k ∧ I[k - 1]? = some y) := by
  rcases Nat.lt_trichotomy k q with a | a | a
  · exact Or.inl ⟨a, by grind⟩
  · exact Or.inr (Or.inl ⟨a, by grind⟩)
  · exact Or.inr (Or.inr ⟨a, by grind⟩)
theorem ins_sorted {I : List Int} {id : Int} {q : Nat} (h : I.Pairwise (· < ·)) (hq : q ≤ I.length) (h1 : ∀ (j : Nat) (x : Int), q ≤ j → I[j]? = some x → id < x) (h2 : ∀ (j : Nat) (x : Int), j < q → I[j]? = some x → x < id) : (I.insertIdx q id).Pairwise (· < ·) := by
  have hs := List.pairwise_iff_getElem.mp h
  have lt : ∀ (i j : Nat) (x y : Int), i < j → I[i]? = some x → I[j]? = some y → x < y := by
    intro i j x y hij hx hy
    grind
  rw [List.pairwise_iff_getElem]
  intro i j hi hj hij
  have a := ins_at hq (List.getElem?_eq_getElem hi)
  have c := ins_at hq (List.getElem?_eq_getElem hj)
  generalize (I.insertIdx q id)[i] = x at a
  generalize (I.insertIdx q id)[j] = y at c
  rcases a with ⟨a1, a2⟩ | ⟨a1, a2⟩ | ⟨a1, a2⟩ <;> rcases c with ⟨c1, c2⟩ | ⟨c1, c2⟩ | ⟨c1, c2⟩
  · exact lt i j x y hij a2 c2
  · rw [c2]; exact h2 i x a1 a2
  · exact lt i (j - 1) x y (by omega) a2 c2
  · omega
  · omega
  · rw [a2]; exact h1 (j - 1) y (by omega) c2
  · omega
  · omega
  · exact lt (i - 1) (j - 1) x y (by omega) a2 c2
