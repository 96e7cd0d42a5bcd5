/-! THE REFERENCE: its cells, its small methods -/
theorem in_eq (a l m : Int) (k : Int → Prop) : w_X7_in a l m k = k (if l ≤ a ∧ a ≤ m then 1 else 0) := by
  unfold w_X7_in
  by_cases h : a < l
  · rw [if_pos h, if_neg (by omega)]
  · rw [if_neg h]
    by_cases h2 : a ≤ m
    · rw [if_pos h2, if_pos (by omega)]
    · rw [if_neg h2, if_neg (by omega)]
theorem isUser_eq (u : Int) (k : Int → Prop) : w_X7_isUser u k = k (if sUsr u then 1 else 0) := by
  unfold w_X7_isUser
  rw [in_eq]
  congr 1
  by_cases h : sUsr u
  · rw [if_pos h, if_pos (by omega)]
  · rw [if_neg h, if_neg (by omega)]
theorem isField_eq (u : Int) (k : Int → Prop) : w_X7_isField u k = k (if sFld u then 1 else 0) := by
  unfold w_X7_isField
  rw [in_eq]
  congr 1
  by_cases h : sFld u
  · rw [if_pos h, if_pos (by omega)]
  · rw [if_neg h, if_neg (by omega)]
theorem isNum_eq (u : Int) (k : Int → Prop) : w_X7_isNumber u k = k (if sNum u then 1 else 0) := by
  unfold w_X7_isNumber
  rw [in_eq]
theorem isColumn_eq (u : Int) (k : Int → Prop) : w_X7_isColumn u k = k (if sCol u then 1 else 0) := by
  unfold w_X7_isColumn
  rw [in_eq]
  congr 1
  by_cases h : sCol u
  · rw [if_pos h, if_pos (by omega)]
  · rw [if_neg h, if_neg (by omega)]
theorem isList_eq (u : Int) (k : Int → Prop) : w_X7_isList u k = k (if sLst u then 1 else 0) := by
  unfold w_X7_isList
  rw [in_eq]
  congr 1
  by_cases h : sLst u
  · rw [if_pos h, if_pos (by omega)]
  · rw [if_neg h, if_neg (by omega)]
abbrev sRec (r : Int) : Prop := 0 ≤ r ∧ r < 10
theorem of_eq {M : jM} {r w : Int} (hr : sRec r) (hw : 0 ≤ w ∧ w < 106) (k : Int → Prop) : w_X7_of M 252 r w k = k (M 253 (55 + 106 * r + w)) := by
  unfold w_X7_of
  rw [jW_id (a := 106 * r) (by omega), jW_id (a := 55 + 106 * r) (by omega), jW_id (by omega)]
  exact propext ⟨fun h => h.2, fun h => ⟨by omega, h⟩⟩
theorem lays_eq {M : jM} {r w v : Int} (hr : sRec r) (hw : 0 ≤ w ∧ w < 106) (k : jM → Prop) : w_X7_lays M 252 r w v k = k (jU M 253 (55 + 106 * r + w) v) := by
  unfold w_X7_lays
  rw [jW_id (a := 106 * r) (by omega), jW_id (a := 55 + 106 * r) (by omega), jW_id (by omega)]
  exact propext ⟨fun h => h.2, fun h => ⟨by omega, h⟩⟩
/-- the reference's state with its order told -/
def MO (M : jM) (c o : Int) (s : aS) (O : List Int) : Prop :=
  sOK s ∧ M c o = (sI s).length ∧ O.Perm (sI s) ∧ (∀ (i : Nat) (id : Int), O[i]? = some id → RM M c (o + 55 + 106 * i) id (sK s id) (sF s id)) ∧
  (∀ f : Int, sFld f → M c (o + 1 + f) = sA s f) ∧
  (∀ q : Int, sCol q → M c (o + 5 + 3 * q) = sC s q 0 ∧ M c (o + 6 + 3 * q) = sC s q 1 ∧ M c (o + 7 + 3 * q) = sC s q 2) ∧
  (∀ l w : Int, sLst l → 0 ≤ w → w < 4 → ∃ n : Nat, M c (o + 23 + 4 * l + w) = n ∧ n < 2 ^ 30 ∧ ∀ i : Nat, i < 30 → 30 * w + i < 100 → n.testBit i = sL s l (30 * w + i))
theorem MS_iff {M : jM} {c o : Int} {s : aS} : MS M c o s ↔ ∃ O, MO M c o s O := ⟨fun ⟨h1, h2, ⟨O, h3, h4⟩, h5, h6, h7⟩ => ⟨O, h1, h2, h3, h4, h5, h6, h7⟩, fun ⟨O, h1, h2, h3, h4, h5, h6, h7⟩ => ⟨h1, h2, ⟨O, h3, h4⟩, h5, h6, h7⟩⟩
theorem RM.move {M M' : jM} {c c' o o' id k : Int} {F : rF} (h : RM M c o id k F) (e : ∀ i : Int, 0 ≤ i → i < 106 → M' c' (o' + i) = M c (o + i)) : RM M' c' o' id k F := by
  obtain ⟨h1, h2, h3, h4⟩ := h
  have e0 := e 0 (by omega) (by omega)
  simp only [Int.add_zero] at e0
  refine ⟨by rw [e0]; exact h1, by rw [e 1 (by omega) (by omega)]; exact h2, h3, fun f f0 f1 => ?_⟩
  have q := h4 f f0 f1
  have l := q.len
  refine q.congr ?_ (fun v v0 v1 => ?_) (fun v k v0 v1 k0 k1 => ?_)
  · have := e (2 + f) (by omega) (by omega)
    rw [← Int.add_assoc, ← Int.add_assoc] at this
    exact this
  · have := e (6 + 5 * f + v) (by omega) (by omega)
    rw [← Int.add_assoc, ← Int.add_assoc, ← Int.add_assoc, ← Int.add_assoc] at this
    exact this
  · have hv := q.val v0 v1
    have := e (26 + 20 * f + 4 * v + k) (by omega) (by omega)
    rw [← Int.add_assoc, ← Int.add_assoc, ← Int.add_assoc, ← Int.add_assoc, ← Int.add_assoc, ← Int.add_assoc] at this
    exact this
theorem MO.len {M : jM} {c o : Int} {s : aS} {O : List Int} (h : MO M c o s O) : O.length = (sI s).length ∧ O.length ≤ 10 := by
  have := h.2.2.1.length_eq
  have := h.1.1
  omega
theorem MO.nodup {M : jM} {c o : Int} {s : aS} {O : List Int} (h : MO M c o s O) : O.Nodup := by
  refine h.2.2.1.nodup_iff.mpr ?_
  exact h.1.2.1.imp (fun {x y} q => by omega)
theorem MO.move {M M' : jM} {c c' o o' : Int} {s : aS} {O : List Int} (h : MO M c o s O) (e : ∀ i : Int, 0 ≤ i → i < 1115 → M' c' (o' + i) = M c (o + i)) : MO M' c' o' s O := by
  have hl := h.len
  obtain ⟨h1, h2, h3, h4, h5, h6, h7⟩ := h
  have e' : ∀ i j : Int, 0 ≤ i → i < 1115 → j = o' + i → M' c' j = M c (o + i) := fun i j a b z => by rw [z]; exact e i a b
  refine ⟨h1, by rw [e' 0 o' (by omega) (by omega) (by omega), Int.add_zero]; exact h2, h3, fun i id hi => (h4 i id hi).move (fun j j0 j1 => ?_), fun f hf => ?_, fun q hq => ?_, fun l w hl w0 w1 => ?_⟩
  · have : i < O.length := (List.getElem?_eq_some_iff.mp hi).1
    rw [e' (55 + 106 * i + j) (o' + 55 + 106 * i + j) (by omega) (by omega) (by omega)]
    congr 1
    omega
  · rw [e' (1 + f) (o' + 1 + f) (by omega) (by omega) (by omega), ← h5 f hf]
    congr 1
    omega
  · rw [e' (5 + 3 * q) (o' + 5 + 3 * q) (by omega) (by omega) (by omega), e' (6 + 3 * q) (o' + 6 + 3 * q) (by omega) (by omega) (by omega), e' (7 + 3 * q) (o' + 7 + 3 * q) (by omega) (by omega) (by omega), ← Int.add_assoc, ← Int.add_assoc, ← Int.add_assoc]
    exact h6 q hq
  · rw [e' (23 + 4 * l + w) (o' + 23 + 4 * l + w) (by omega) (by omega) (by omega), ← Int.add_assoc, ← Int.add_assoc]
    exact h7 l w hl w0 w1
theorem MS.move {M M' : jM} {c c' o o' : Int} {s : aS} (h : MS M c o s) (e : ∀ i : Int, 0 ≤ i → i < 1115 → M' c' (o' + i) = M c (o + i)) : MS M' c' o' s := by
  obtain ⟨O, h⟩ := MS_iff.mp h
  exact MS_iff.mpr ⟨O, h.move e⟩
theorem MS.ok {M : jM} {c o : Int} {s : aS} (h : MS M c o s) : sOK s := h.1
theorem placeOf_lp {M : jM} {s : aS} {O : List Int} {id : Int} {kx : Int → Prop} (h : MO M 253 0 s O) (h1 : ∀ i : Nat, O[i]? = some id → kx i) (h2 : id ∉ O → kx (-1000001)) :
    ∀ (d n p : Nat) (x : Int), d < n → p + d = O.length → (∀ i : Nat, i < p → O[i]? = some id → x = i) → ((∀ i : Nat, i < p → O[i]? ≠ some id) → x = -1000001) → lp_X7_placeOf_5 252 id M kx n x p := by
  have hl := h.len
  have hn := h.nodup
  have hm : M 253 0 = (O.length : Nat) := by rw [h.2.1, hl.1]
  intro d
  induction d with
  | zero =>
    intro n p x hn' hp a b
    obtain ⟨n, rfl⟩ : ∃ m, n = m + 1 := ⟨n - 1, by omega⟩
    rw [lp_X7_placeOf_5]
    simp only [Int.reduceAdd, hm]
    rw [if_neg (by omega)]
    refine ⟨by omega, ?_⟩
    by_cases z : id ∈ O
    · obtain ⟨i, hi⟩ := List.getElem?_of_mem z
      have := (List.getElem?_eq_some_iff.mp hi).1
      rw [a i (by omega) hi]
      exact h1 i hi
    · rw [b (fun i _ hi => z (List.mem_of_getElem? hi))]
      exact h2 z
  | succ d ih =>
    intro n p x hn' hp a b
    obtain ⟨n, rfl⟩ : ∃ m, n = m + 1 := ⟨n - 1, by omega⟩
    obtain ⟨y, hy⟩ : ∃ y, O[p]? = some y := ⟨_, List.getElem?_eq_getElem (by omega)⟩
    have hr := h.2.2.2.1 p y hy
    have e0 : M 253 (55 + 106 * (p : Int) + 0) = y := by rw [← hr.1]; congr 1
    rw [lp_X7_placeOf_5]
    simp only [Int.reduceAdd, hm]
    rw [if_pos (by omega), of_eq (by omega) (by omega), e0]
    simp (disch := omega) only [jL, jW_id]
    refine ⟨by omega, ?_⟩
    by_cases z : y = id
    · rw [if_pos z]
      refine ih n (p + 1) p (by omega) (by omega) (fun i hi hi2 => ?_) (fun q => ?_)
      · have : i = p := by
          obtain ⟨g1, g2⟩ := List.getElem?_eq_some_iff.mp hi2
          obtain ⟨g3, g4⟩ := List.getElem?_eq_some_iff.mp hy
          rcases Nat.lt_or_ge i p with q | q
          · exact absurd (by rw [g2, g4, z]) (List.pairwise_iff_getElem.mp hn i p g1 g3 q)
          · omega
        omega
      · exact absurd (by rw [hy, z]) (q p (by omega))
    · rw [if_neg z]
      refine ih n (p + 1) x (by omega) (by omega) (fun i hi hi2 => ?_) (fun q => b (fun i hi => q i (by omega)))
      have : i ≠ p := fun e => by
        rw [e, hy] at hi2
        exact z (Option.some.inj hi2)
      exact a i (by omega) hi2
theorem placeOf_k {N : Nat} {M : jM} {s : aS} {O : List Int} {id : Int} {k : Int → Prop} (hN : 100 ≤ N) (h : MO M 253 0 s O) (h1 : ∀ i : Nat, O[i]? = some id → k i) (h2 : id ∉ sI s → k (-1000001)) : w_X7_placeOf N M 252 id k := by
  have hl := h.len
  exact placeOf_lp h h1 (fun z => h2 (fun q => z (h.2.2.1.mem_iff.mpr q))) O.length N 0 (-1000001) (by omega) (by omega) (fun i hi => absurd hi (by omega)) (fun _ => rfl)
theorem errorOf_k {N : Nat} {M : jM} {s : aS} {u id : Int} {k : Int → Prop} (hN : 100 ≤ N) (h : MS M 253 0 s) (h1 : k (if ¬ sUsr u ∨ id ∉ sI s then -1000001 else 0)) : w_X7_errorOf N M 252 u id k := by
  obtain ⟨O, h⟩ := MS_iff.mp h
  unfold w_X7_errorOf
  rw [isUser_eq]
  simp only [b01, ite_not]
  by_cases hu : sUsr u
  · rw [if_pos hu]
    refine placeOf_k hN h (fun i hi => ?_) (fun z => ?_)
    · rw [if_neg (by omega)]
      rw [if_neg (fun z => z.elim (fun z => z hu) (fun z => z (h.2.2.1.mem_iff.mp (List.mem_of_getElem? hi))))] at h1
      exact h1
    · rw [if_pos (by omega)]
      rw [if_pos (Or.inr z)] at h1
      exact h1
  · rw [if_neg hu]
    rw [if_pos (Or.inl hu)] at h1
    exact h1
theorem isBarred_eq {M : jM} {r id K u : Int} {F : rF} (hr : sRec r) (h : RM M 253 (55 + 106 * r) id K F) (hu : sUsr u) (k : Int → Prop) : w_X7_isBarred M 252 r u k = k (if K = -1000007 ∨ K = u then 0 else 1) := by
  unfold w_X7_isBarred
  rw [of_eq hr (by omega), h.2.1, of_eq hr (by omega), h.2.1, jW_id (by omega)]
  have hk := h.2.2.1
  by_cases z : K = -1000007
  · rw [if_pos z, if_pos (by omega), if_pos (Or.inl z)]
  · rw [if_neg z, if_neg (by omega)]
    by_cases q : K = u
    · rw [if_pos (by omega), if_pos (Or.inr q)]
    · rw [if_neg (by omega), if_neg (fun w => w.elim z q)]
