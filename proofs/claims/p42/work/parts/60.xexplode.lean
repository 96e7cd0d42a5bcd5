/-! EXPLODING: each entry goes behind all that have its number -/
abbrev behP (d a b : Int) : Prop := if d = 0 then b < a else a < b
theorem exU_0 {M : jM} {m : Int} : exU M m m = M := by
  funext c i
  unfold exU
  rw [if_neg (by omega)]
theorem exU_next {M : jM} {p m : Int} (h1 : p ≤ m) : exP (exU M p m) p (exU M p m 249 (p - 1), exU M p m 250 (p - 1), exU M p m 251 (p - 1)) = exU M (p - 1) m := by
  funext c i
  simp only [exP, jU, exU]
  grind (splits := 30)
theorem exU_row {M : jM} {p m c : Int} (h : c < 249 ∨ 251 < c) : exU M p m c = M c := by
  funext i
  unfold exU
  rw [if_neg (by omega)]
theorem exP_row {M : jM} {i c : Int} {e : eE} (h : c < 249 ∨ 251 < c) : exP M i e c = M c := by
  unfold exP
  rw [jU_row (by omega), jU_row (by omega), jU_row (by omega)]
def exI (E : List eE) (p : Nat) (e : eE) : List eE := E.take p ++ e :: E.drop p
theorem exI_len {E : List eE} {p : Nat} {e : eE} (h : p ≤ E.length) : (exI E p e).length = E.length + 1 := by
  unfold exI
  simp
  omega
theorem exI_at {E : List eE} {p k : Nat} {e y : eE} (hp : p ≤ E.length) (h : (exI E p e)[k]? = some y) : (k < p ∧ E[k]? = some y) ∨ (k = p ∧ y = e) ∨ (p < k ∧ E[k - 1]? = some y) := by
  unfold exI at h
  have hl : (E.take p).length = p := by rw [List.length_take]; omega
  rcases Nat.lt_trichotomy k p with q | q | q
  · rw [List.getElem?_append_left (by omega)] at h
    rw [List.getElem?_take_of_lt q] at h
    exact Or.inl ⟨q, h⟩
  · subst q
    rw [List.getElem?_append_right (by omega), hl, Nat.sub_self] at h
    exact Or.inr (Or.inl ⟨rfl, by simpa using h.symm⟩)
  · rw [List.getElem?_append_right (by omega), hl, show k - p = (k - p - 1) + 1 by omega, List.getElem?_cons_succ, List.getElem?_drop] at h
    exact Or.inr (Or.inr ⟨q, by rw [← h]; congr 1; omega⟩)
theorem exI_XE {M : jM} {d : Int} {E : List eE} {p : Nat} {e : eE} (h : XE M d E) (hp : p ≤ E.length) : XE (jU (exP (exU M p E.length) p e) 248 3 (E.length + 1)) d (exI E p e) := by
  refine ⟨by rw [exI_len hp]; simp [jU], ?_, fun k y hy => ?_⟩
  · have : jU (exP (exU M p E.length) p e) 248 3 (E.length + 1) 248 4 = M 248 4 := by
      simp only [jU]
      rw [if_neg (by omega), exP_row (by omega), exU_row (by omega)]
    rw [this]
    exact h.2.1
  · rw [jU_row (by omega), jU_row (by omega), jU_row (by omega)]
    rcases exI_at hp hy with ⟨q, hk⟩ | ⟨q, hk⟩ | ⟨q, hk⟩
    · have := h.2.2 k y hk
      simp only [exP, jU, exU]
      grind (splits := 30)
    · subst hk
      subst q
      simp [exP, jU]
    · have hl := (List.getElem?_eq_some_iff.mp hk).1
      have := h.2.2 (k - 1) y hk
      rw [show ((k - 1 : Nat) : Int) = (k : Int) - 1 by omega] at this
      simp only [exP, jU, exU]
      grind (splits := 30)
theorem exAdd_lp {M : jM} {d x : Int} {E : List eE} {kx : Int → jM → Prop} (h : XE M d E) (hl : E.length < 200) (H : ∀ p : Nat, p ≤ E.length → (∀ (j : Nat) (e : eE), p ≤ j → E[j]? = some e → behP d e.1 x) → (∀ e : eE, 0 < p → E[p - 1]? = some e → ¬ behP d e.1 x) → kx p (exU M p E.length)) :
    ∀ (p n : Nat), p < n → p ≤ E.length → (∀ (j : Nat) (e : eE), p ≤ j → E[j]? = some e → behP d e.1 x) → lp_X0_add_17 248 x kx n p (exU M p E.length) := by
  intro p
  induction p with
  | zero =>
    intro n hn hp hj
    obtain ⟨n, rfl⟩ : ∃ m, n = m + 1 := ⟨n - 1, by omega⟩
    rw [lp_X0_add_17, if_pos (by omega)]
    exact H 0 hp hj (fun e z => absurd z (by omega))
  | succ p ih =>
    intro n hn hp hj
    obtain ⟨n, rfl⟩ : ∃ m, n = m + 1 := ⟨n - 1, by omega⟩
    obtain ⟨e, he⟩ : ∃ e, E[p]? = some e := ⟨_, List.getElem?_eq_getElem (by omega)⟩
    have hc := h.2.2 p e he
    have ep : (((p + 1 : Nat) : Int) - 1) = p := by omega
    have e1 : exU M ((p + 1 : Nat) : Int) E.length 249 p = e.1 := by rw [← hc.1]; unfold exU; rw [if_neg (by omega)]
    have e4 : exU M ((p + 1 : Nat) : Int) E.length 248 4 = d := by rw [exU_row (by omega)]; exact h.2.1
    rw [lp_X0_add_17, if_neg (by omega), jW_id (by omega), ep]
    simp only [Int.reduceAdd]
    refine ⟨by omega, ?_⟩
    rw [behind_eq e4, e1]
    simp only [b01, ite_not]
    by_cases z : behP d e.1 x
    · rw [if_pos z]
      refine ⟨by omega, by omega, by omega, ?_⟩
      rw [exPut_eq (by omega)]
      have q := exU_next (M := M) (p := ((p + 1 : Nat) : Int)) (m := E.length) (by omega)
      rw [ep, e1] at q
      rw [q]
      simp only [jL]
      rw [show jW (((p + 1 : Nat) : Int) + -1) = p by rw [jW_id (by omega)]; omega]
      refine ih n (by omega) (by omega) (fun j e' hj1 hj2 => ?_)
      by_cases hjp : j = p
      · subst hjp
        rw [he] at hj2
        rw [← Option.some.inj hj2]
        exact z
      · exact hj j e' (by omega) hj2
    · rw [if_neg z]
      refine H (p + 1) hp hj (fun e' _ he' => ?_)
      have : p + 1 - 1 = p := by omega
      rw [this, he] at he'
      rw [← Option.some.inj he']
      exact z
theorem exAdd_k {N : Nat} {M : jM} {d : Int} {E : List eE} {e : eE} {k : jM → Prop} (hN : 250 ≤ N) (h : XE M d E) (hl : E.length < 200) (H : ∀ (p : Nat) (M' : jM), p ≤ E.length → (∀ (j : Nat) (y : eE), p ≤ j → E[j]? = some y → behP d y.1 e.1) → (∀ y : eE, 0 < p → E[p - 1]? = some y → ¬ behP d y.1 e.1) → (∀ c : Int, (c < 248 ∨ 251 < c) → M' c = M c) → XE M' d (exI E p e) → k M') : w_X0_add N M 248 e.1 e.2.1 e.2.2 k := by
  unfold w_X0_add
  rw [h.1, if_pos (by omega)]
  simp only [jL]
  have := exAdd_lp (x := e.1) (kx := fun (x4 : Int) (M5 : jM) => (w_X0_put M5 248 x4 e.1 e.2.1 e.2.2 (fun M6 => (jL (jU M6 248 3 (jW ((M6 248 3) + 1))) (fun M7 => (k M7)))))) h hl (fun p hp h1 h2 => ?_) E.length N (by omega) (by omega) (fun j y hj hy => by have := (List.getElem?_eq_some_iff.mp hy).1; omega)
  · rw [exU_0] at this
    exact this
  · rw [exPut_eq (by omega)]
    have e3 : exP (exU M p E.length) p e 248 3 = E.length := by rw [exP_row (by omega), exU_row (by omega)]; exact h.1
    simp only [jL]
    show k (jU (exP (exU M p E.length) p e) 248 3 (jW (exP (exU M p E.length) p e 248 3 + 1)))
    rw [e3, jW_id (by omega)]
    exact H p _ hp h1 h2 (fun c hc => by rw [jU_row (by omega), exP_row (by omega), exU_row (by omega)]) (exI_XE h hp)
/-- the new entry comes last by ids and places: the list stays in order -/
theorem exI_sorted {d : Int} {E : List eE} {p : Nat} {e : eE} (h : E.Pairwise (aheadP d)) (hlast : ∀ y ∈ E, y.2.1 < e.2.1 ∨ (y.2.1 = e.2.1 ∧ y.2.2 < e.2.2)) (h1 : ∀ (j : Nat) (y : eE), p ≤ j → E[j]? = some y → behP d y.1 e.1) (h2 : ∀ y : eE, 0 < p → E[p - 1]? = some y → ¬ behP d y.1 e.1) (hp : p ≤ E.length) : (exI E p e).Pairwise (aheadP d) := by
  have hs := h
  rw [← List.take_append_drop p E] at hs
  obtain ⟨p1, p2, p3⟩ := List.pairwise_append.mp hs
  unfold exI
  rw [List.pairwise_append]
  have hd : ∀ y ∈ E.drop p, aheadP d e y := by
    intro y hy
    obtain ⟨j, hj⟩ := List.getElem?_of_mem hy
    rw [List.getElem?_drop] at hj
    have := h1 (p + j) y (by omega) hj
    unfold behP at this
    unfold aheadP
    by_cases z : d = 0
    · rw [if_pos z] at this ⊢
      exact Or.inl this
    · rw [if_neg z] at this ⊢
      exact Or.inl this
  have ht : ∀ y ∈ E.take p, aheadP d y e := by
    intro y hy
    obtain ⟨j, hj⟩ := List.getElem?_of_mem hy
    have hjp : j < p := by
      have := (List.getElem?_eq_some_iff.mp hj).1
      rw [List.length_take] at this
      omega
    rw [List.getElem?_take_of_lt hjp] at hj
    obtain ⟨w, hw⟩ : ∃ w, E[p - 1]? = some w := ⟨_, List.getElem?_eq_getElem (by omega)⟩
    have q := h2 w (by omega) hw
    have hy2 := hlast y (List.mem_of_getElem? hj)
    have hyw : j = p - 1 ∨ aheadP d y w := by
      by_cases z : j = p - 1
      · exact Or.inl z
      · right
        obtain ⟨g1, g2⟩ := List.getElem?_eq_some_iff.mp hj
        obtain ⟨g3, g4⟩ := List.getElem?_eq_some_iff.mp hw
        have := List.pairwise_iff_getElem.mp h j (p - 1) g1 g3 (by omega)
        rw [g2, g4] at this
        exact this
    have hyw2 : y = w ∨ aheadP d y w := by
      rcases hyw with z | z
      · subst z
        rw [hj] at hw
        exact Or.inl (Option.some.inj hw)
      · exact Or.inr z
    unfold behP at q
    unfold aheadP at hyw2 ⊢
    by_cases z : d = 0
    · rw [if_pos z] at *
      rcases hyw2 with rfl | hyw2
      · omega
      · omega
    · rw [if_neg z] at *
      rcases hyw2 with rfl | hyw2
      · omega
      · omega
  refine ⟨p1, List.pairwise_cons.mpr ⟨hd, p2⟩, fun y hy w hw => ?_⟩
  rcases List.mem_cons.mp hw with rfl | hw
  · exact ht y hy
  · exact p3 y hy w hw
theorem exI_perm {E : List eE} {p : Nat} {e : eE} : (exI E p e).Perm (e :: E) := by
  unfold exI
  refine List.perm_middle.trans ?_
  rw [List.take_append_drop]
