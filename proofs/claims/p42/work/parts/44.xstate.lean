/-! THE CLASS'S STATES -/
theorem XS.ok {M : jM} {b : Int} {s : aS} (h : XS M b s) : sOK s := h.1
theorem XS.cnt {M : jM} {b : Int} {s : aS} (h : XS M b s) : M b 1 = (sI s).length ∧ (sI s).length ≤ 10 := ⟨h.2.1, h.1.1⟩
theorem XS.ref {M : jM} {b : Int} {s : aS} (h : XS M b s) {i : Int} (h0 : 0 ≤ i) (h1 : i < 10) : ∃ q : Int, 0 ≤ q ∧ q < 10 ∧ M (b + 1) i = b + 2 + 4 * q := h.2.2.1 i h0 h1
theorem XS.inj {M : jM} {b : Int} {s : aS} (h : XS M b s) {i j : Int} (h0 : 0 ≤ i) (h1 : i < 10) (h2 : 0 ≤ j) (h3 : j < 10) (e : M (b + 1) i = M (b + 1) j) : i = j := h.2.2.2.1 i j h0 h1 h2 h3 e
theorem XS.rec {M : jM} {b : Int} {s : aS} (h : XS M b s) {i : Nat} {id : Int} (hi : (sI s)[i]? = some id) : RX M (M (b + 1) i) id (sK s id) (sF s id) := h.2.2.2.2.1 i id hi
theorem XS.lt {M : jM} {b : Int} {s : aS} (h : XS M b s) {i : Nat} {id : Int} (hi : (sI s)[i]? = some id) : i < (sI s).length ∧ i < 10 := by
  have := h.1.1
  have : i < (sI s).length := by grind
  omega
/-- two places of one state: the same, or their records' cells are apart -/
theorem XS.apart {M : jM} {b : Int} {s : aS} (h : XS M b s) {i j : Int} (h0 : 0 ≤ i) (h1 : i < 10) (h2 : 0 ≤ j) (h3 : j < 10) (e : i ≠ j) : M (b + 1) i + 4 ≤ M (b + 1) j ∨ M (b + 1) j + 4 ≤ M (b + 1) i := by
  obtain ⟨q, a1, a2, a3⟩ := h.ref h0 h1
  obtain ⟨t, b1, b2, b3⟩ := h.ref h2 h3
  have : M (b + 1) i ≠ M (b + 1) j := fun z => e (h.inj h0 h1 h2 h3 z)
  omega
theorem XS.in {M : jM} {b : Int} {s : aS} (h : XS M b s) {i : Int} (h0 : 0 ≤ i) (h1 : i < 10) : b + 2 ≤ M (b + 1) i ∧ M (b + 1) i ≤ b + 38 := by
  obtain ⟨q, a1, a2, a3⟩ := h.ref h0 h1
  omega
theorem XS.congr {M M' : jM} {b : Int} {s : aS} (h : XS M b s) (e : ∀ c : Int, b ≤ c → c < b + 47 → M' c = M c) : XS M' b s := by
  have e1 := e (b + 1) (by omega) (by omega)
  refine ⟨h.1, by rw [e b (by omega) (by omega)]; exact h.2.1, fun i h0 h1 => by rw [e1]; exact h.ref h0 h1, fun i j h0 h1 h2 h3 => by rw [e1]; exact h.inj h0 h1 h2 h3, fun i id hi => ?_, fun f hf => by rw [e _ (by omega) (by omega)]; exact h.2.2.2.2.2.1 f hf, fun c hc => by rw [e _ (by omega) (by omega), e _ (by omega) (by omega), e _ (by omega) (by omega)]; exact h.2.2.2.2.2.2.1 c hc, fun l i hl h0 h1 => by rw [e _ (by omega) (by omega)]; exact h.2.2.2.2.2.2.2 l i hl h0 h1⟩
  have hl := h.lt hi
  have hr := h.in (i := i) (by omega) (by omega)
  rw [e1]
  exact (h.rec hi).congr (e _ (by omega) (by omega)) (e _ (by omega) (by omega)) (e _ (by omega) (by omega)) (e _ (by omega) (by omega))
/-- a record's cells changed -/
theorem XS.setRec {M M' : jM} {b : Int} {s s' : aS} {i : Nat} {id : Int} (h : XS M b s) (hi : (sI s)[i]? = some id) (e : ∀ c : Int, b ≤ c → c < b + 47 → (c < M (b + 1) i ∨ M (b + 1) i + 4 ≤ c) → M' c = M c)
    (hr : RX M' (M (b + 1) i) id (sK s' id) (sF s' id)) (e1 : sI s' = sI s) (e2 : ∀ j : Int, j ≠ id → sK s' j = sK s j) (e3 : ∀ j : Int, j ≠ id → sF s' j = sF s j) (e4 : sA s' = sA s) (e5 : sC s' = sC s) (e6 : sL s' = sL s) : XS M' b s' := by
  have hl := h.lt hi
  have hin := h.in (i := i) (by omega) (by omega)
  have eb := e (b + 1) (by omega) (by omega) (by omega)
  have hok : sOK s' := by
    unfold sOK
    rw [e1, e4, e5]
    exact h.1
  refine ⟨hok, by rw [e b (by omega) (by omega) (by omega), e1]; exact h.2.1, fun i h0 h1 => by rw [eb]; exact h.ref h0 h1, fun i j h0 h1 h2 h3 => by rw [eb]; exact h.inj h0 h1 h2 h3, fun j jd hj => ?_, fun f hf => by rw [e _ (by omega) (by omega) (by omega), e4]; exact h.2.2.2.2.2.1 f hf, fun c hc => by rw [e _ (by omega) (by omega) (by omega), e _ (by omega) (by omega) (by omega), e _ (by omega) (by omega) (by omega), e5]; exact h.2.2.2.2.2.2.1 c hc, fun l i hl h0 h1 => by rw [e _ (by omega) (by omega) (by omega), e6]; exact h.2.2.2.2.2.2.2 l i hl h0 h1⟩
  rw [e1] at hj
  rw [eb]
  have hlj := h.lt hj
  by_cases z : j = i
  · subst z
    have : jd = id := by grind
    subst this
    exact hr
  · have hne : jd ≠ id := by
      have := h.1.2.1
      intro q
      subst q
      have := List.pairwise_iff_getElem.mp this
      grind
    rw [e2 jd hne, e3 jd hne]
    have ha := h.apart (i := i) (j := j) (by omega) (by omega) (by omega) (by omega) (by omega)
    have hj2 := h.in (i := j) (by omega) (by omega)
    exact (h.rec hj).congr (e _ (by omega) (by omega) (by omega)) (e _ (by omega) (by omega) (by omega)) (e _ (by omega) (by omega) (by omega)) (e _ (by omega) (by omega) (by omega))
theorem find_lp {M : jM} {b id : Int} {s : aS} {k : Int → Prop} {kx : Prop} (hS : XS M b s) (h1 : ∀ i : Nat, (sI s)[i]? = some id → k (M (b + 1) i)) (h2 : id ∉ sI s → kx) : ∀ (d n p : Nat), d < n → p + d = (sI s).length → (∀ j : Nat, j < p → (sI s)[j]? ≠ some id) → lp_X4_find_2 b id M k kx n p := by
  intro d
  induction d with
  | zero =>
    intro n p hn hp hj
    obtain ⟨n, rfl⟩ : ∃ m, n = m + 1 := ⟨n - 1, by omega⟩
    rw [lp_X4_find_2, hS.cnt.1, if_neg (by omega)]
    refine h2 (fun q => ?_)
    obtain ⟨i, hi⟩ := List.getElem?_of_mem q
    exact hj i (by have := (hS.lt hi).1; omega) hi
  | succ d ih =>
    intro n p hn hp hj
    obtain ⟨n, rfl⟩ : ∃ m, n = m + 1 := ⟨n - 1, by omega⟩
    have hc := hS.cnt
    rw [lp_X4_find_2, hc.1, if_pos (by omega)]
    obtain ⟨x, hx⟩ : ∃ x, (sI s)[p]? = some x := ⟨_, List.getElem?_eq_getElem (by omega)⟩
    rw [(hS.rec hx).1]
    refine ⟨by omega, ?_⟩
    by_cases e : x = id
    · subst e
      rw [if_pos rfl]
      exact ⟨by omega, h1 p hx⟩
    · rw [if_neg e]
      simp (disch := omega) only [jL, jW_id]
      refine ih n (p + 1) (by omega) (by omega) (fun j hj2 => ?_)
      by_cases e2 : j = p
      · subst e2
        rw [hx]
        intro q
        exact e (Option.some.inj q)
      · exact hj j (by omega)
theorem fnd_k {N : Nat} {M : jM} {b id : Int} {s : aS} {k : Int → Prop} (hN : 100 ≤ N) (hS : XS M b s) (h1 : ∀ i : Nat, (sI s)[i]? = some id → k (M (b + 1) i)) (h2 : id ∉ sI s → k (-1)) : w_X4_find N M b id k := by
  unfold w_X4_find
  have hc := hS.cnt
  exact find_lp hS h1 h2 (sI s).length N 0 (by omega) (by omega) (fun j hj => by omega)
/-! a record begun, a record copied -/
def emC (M : jM) (r : Int) : jM := fun c i => if c = r + 1 ∧ 0 ≤ i ∧ i < 4 then 0 else M c i
theorem emptyFields_eq {N : Nat} {M : jM} {r : Int} (hN : 100 ≤ N) {k : jM → Prop} (h : k (emC M r)) : w_X1_emptyFields N M r k := by
  obtain ⟨n, rfl⟩ : ∃ m, N = m + 5 := ⟨N - 5, by omega⟩
  unfold w_X1_emptyFields
  simp (disch := omega) only [lp_X1_emptyFields_2, jL, jB, jW_id]
  have e : jU (jU (jU (jU M (r + 1) 0 0) (r + 1) 1 0) (r + 1) 2 0) (r + 1) 3 0 = emC M r := by
    funext c i
    simp only [jU, emC]
    grind (splits := 20)
  simpa [e] using h
def bgC (M : jM) (r id : Int) : jM := fun c i => if c = r ∧ i = 0 then id else if c = r ∧ i = 1 then -1000007 else if c = r + 1 ∧ 0 ≤ i ∧ i < 4 then 0 else M c i
theorem begin_eq {N : Nat} {M : jM} {r id : Int} (hN : 100 ≤ N) {k : jM → Prop} (h : k (bgC M r id)) : w_X1_begin N M r id k := by
  unfold w_X1_begin
  simp only [jL]
  refine emptyFields_eq hN ?_
  have e : emC (jU (jU M r 0 id) r 1 (-1000007)) r = bgC M r id := by
    funext c i
    simp only [jU, emC, bgC]
    grind (splits := 20)
  rw [e]
  exact h
theorem bgC_RX {M : jM} {r id : Int} : RX (bgC M r id) r id (-1000007) (fun _ => []) := by
  refine ⟨by simp [bgC], by simp [bgC], Or.inl rfl, fun f f0 f1 => ?_⟩
  have e : bgC M r id (r + 1) f = 0 := by
    simp only [bgC]
    grind
  rw [e]
  exact FR.nil
def cfC (M : jM) (r t : Int) : jM := fun c i => if c = r + 1 ∧ 0 ≤ i ∧ i < 4 then M (t + 1) i else if c = r + 2 ∧ 0 ≤ i ∧ i < 20 then M (t + 2) i else if c = r + 3 ∧ 0 ≤ i ∧ i < 80 then M (t + 3) i else M c i
theorem copyFields_eq {M : jM} {r t : Int} (hd : r + 4 ≤ t ∨ t + 4 ≤ r) (k : jM → Prop) : w_X1_copyFields M r t k = k (cfC M r t) := by
  unfold w_X1_copyFields
  simp only [jL]
  have e : jC (jC (jC M (t + 1) 0 (r + 1) 0 4) (t + 2) 0 (r + 2) 0 20) (t + 3) 0 (r + 3) 0 80 = cfC M r t := by
    funext c i
    simp only [jC, cfC]
    grind (splits := 30)
  rw [e]
  simp [jBc]
def crC (M : jM) (r t : Int) : jM := fun c i => if c = r ∧ i = 0 then M t 0 else if c = r ∧ i = 1 then M t 1 else cfC M r t c i
theorem copyRecord_eq {M : jM} {r t : Int} (hd : r + 4 ≤ t ∨ t + 4 ≤ r) (k : jM → Prop) : w_X1_copyRecord M r t k = k (crC M r t) := by
  unfold w_X1_copyRecord
  simp only [jL]
  rw [copyFields_eq hd]
  have e : cfC (jU (jU M r 0 (M t 0)) r 1 (jU M r 0 (M t 0) t 1)) r t = crC M r t := by
    funext c i
    simp only [jU, cfC, crC]
    grind (splits := 30)
  rw [e]
theorem cfC_RF {M : jM} {r t : Int} {F : Int → List (List Int)} (h : RF M t F) : RF (cfC M r t) r F := by
  intro f f0 f1
  have q := h f f0 f1
  have ql := q.len
  refine q.congr ?_ (fun v v0 v1 => ?_) (fun v k v0 v1 k0 k1 => ?_)
  · simp only [cfC]; grind
  · simp only [cfC]; grind
  · have := (q.val v0 v1).2
    simp only [cfC]; grind
theorem cfC_row {M : jM} {r t c : Int} (h : c < r + 1 ∨ r + 4 ≤ c) : cfC M r t c = M c := by
  funext i
  simp only [cfC]
  grind
theorem crC_row {M : jM} {r t c : Int} (h : c < r ∨ r + 4 ≤ c) : crC M r t c = M c := by
  funext i
  simp only [crC]
  rw [if_neg (by omega), if_neg (by omega), cfC_row (by omega)]
theorem crC_RX {M : jM} {r t id K : Int} {F : Int → List (List Int)} (hd : r + 4 ≤ t ∨ t + 4 ≤ r) (h : RX M t id K F) : RX (crC M r t) r id K F := by
  refine ⟨by simp [crC]; exact h.1, by simp [crC]; exact h.2.1, h.2.2.1, ?_⟩
  have q : RF (cfC M r t) r F := cfC_RF h.2.2.2
  exact q.congr (by funext i; simp only [crC]; grind) (by funext i; simp only [crC]; grind) (by funext i; simp only [crC]; grind)
