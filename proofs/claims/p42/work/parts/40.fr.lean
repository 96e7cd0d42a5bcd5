/-! A FIELD: a list of values, each a list of numbers; how cells hold it -/
def FR (L : List (List Int)) (vc : Int) (sc : Int → Int) (nm : Int → Int → Int) : Prop :=
  vc = L.length ∧ L.length ≤ 5 ∧ ∀ (v : Nat) (V : List Int), L[v]? = some V → sc v = V.length ∧ 1 ≤ V.length ∧ V.length ≤ 4 ∧ ∀ (k : Nat) (x : Int), V[k]? = some x → nm v k = x ∧ -999 ≤ x ∧ x ≤ 999
def fV (L : List (List Int)) (v : Int) : List Int := L.getD v.toNat []
def fN (L : List (List Int)) (v k : Int) : Int := (fV L v).getD k.toNat 0
def fInsV (L : List (List Int)) (v x : Int) : List (List Int) := L.insertIdx v.toNat [x]
def fInsS (L : List (List Int)) (v s x : Int) : List (List Int) := L.set v.toNat ((fV L v).insertIdx s.toNat x)
def fChg (L : List (List Int)) (v s x : Int) : List (List Int) := L.set v.toNat ((fV L v).set s.toNat x)
def fDelV (L : List (List Int)) (v : Int) : List (List Int) := L.eraseIdx v.toNat
def fDelS (L : List (List Int)) (v s : Int) : List (List Int) := L.set v.toNat ((fV L v).eraseIdx s.toNat)
theorem FR.len {L : List (List Int)} {vc : Int} {sc : Int → Int} {nm : Int → Int → Int} (h : FR L vc sc nm) : vc = L.length ∧ 0 ≤ vc ∧ vc ≤ 5 := ⟨h.1, by have := h.1; omega, by have := h.1; have := h.2.1; omega⟩
theorem FR.val {L : List (List Int)} {vc : Int} {sc : Int → Int} {nm : Int → Int → Int} (h : FR L vc sc nm) {v : Int} (h0 : 0 ≤ v) (h1 : v < vc) : L[v.toNat]? = some (fV L v) ∧ sc v = (fV L v).length ∧ 1 ≤ (fV L v).length ∧ (fV L v).length ≤ 4 := by
  obtain ⟨g1, g2, g3⟩ := h
  have e : L[v.toNat]? = some (fV L v) := by grind [fV]
  have q := g3 v.toNat _ e
  rw [Int.toNat_of_nonneg h0] at q
  exact ⟨e, q.1, q.2.1, q.2.2.1⟩
theorem FR.num {L : List (List Int)} {vc : Int} {sc : Int → Int} {nm : Int → Int → Int} (h : FR L vc sc nm) {v k : Int} (h0 : 0 ≤ v) (h1 : v < vc) (k0 : 0 ≤ k) (k1 : k < sc v) : (fV L v)[k.toNat]? = some (fN L v k) ∧ nm v k = fN L v k ∧ -999 ≤ nm v k ∧ nm v k ≤ 999 := by
  obtain ⟨e, e1, e2, e3⟩ := h.val h0 h1
  have e4 : (fV L v)[k.toNat]? = some (fN L v k) := by grind [fN]
  have q := (h.2.2 v.toNat _ e).2.2.2 k.toNat _ e4
  rw [Int.toNat_of_nonneg h0, Int.toNat_of_nonneg k0] at q
  exact ⟨e4, q.1, by omega, by omega⟩
theorem FR.congr {L : List (List Int)} {vc vc' : Int} {sc sc' : Int → Int} {nm nm' : Int → Int → Int} (h : FR L vc sc nm) (h1 : vc' = vc) (h2 : ∀ v : Int, 0 ≤ v → v < vc → sc' v = sc v) (h3 : ∀ v k : Int, 0 ≤ v → v < vc → 0 ≤ k → k < sc v → nm' v k = nm v k) : FR L vc' sc' nm' := by
  obtain ⟨g1, g2, g3⟩ := h
  refine ⟨by omega, g2, fun v V hv => ?_⟩
  have hl : v < L.length := by grind
  obtain ⟨q1, q2, q3, q4⟩ := g3 v V hv
  refine ⟨by rw [h2 v (by omega) (by omega)]; exact q1, q2, q3, fun k x hk => ?_⟩
  have hk2 : k < V.length := by grind
  rw [h3 v k (by omega) (by omega) (by omega) (by omega)]
  exact q4 k x hk
theorem FR.nil {sc : Int → Int} {nm : Int → Int → Int} : FR [] 0 sc nm := ⟨rfl, by decide, fun v V h => by simp at h⟩
theorem FR.insV {L : List (List Int)} {vc vc' x : Int} {sc sc' : Int → Int} {nm nm' : Int → Int → Int} (h : FR L vc sc nm) {v : Int} (h0 : 0 ≤ v) (h1 : v ≤ vc) (h2 : vc < 5) (hx : -999 ≤ x ∧ x ≤ 999) (hv : vc' = vc + 1)
    (a1 : ∀ j : Int, 0 ≤ j → j < v → sc' j = sc j) (a2 : ∀ j k : Int, 0 ≤ j → j < v → 0 ≤ k → k < 4 → nm' j k = nm j k) (b1 : sc' v = 1) (b2 : nm' v 0 = x) (c1 : ∀ j : Int, v < j → j ≤ vc → sc' j = sc (j - 1)) (c2 : ∀ j k : Int, v < j → j ≤ vc → 0 ≤ k → k < 4 → nm' j k = nm (j - 1) k) : FR (fInsV L v x) vc' sc' nm' := by
  obtain ⟨g1, g2, g3⟩ := h
  have hL : (fInsV L v x).length = L.length + 1 := by unfold fInsV; rw [List.length_insertIdx]; grind
  refine ⟨by omega, by omega, fun j V hj => ?_⟩
  have hjl : j < L.length + 1 := by grind
  unfold fInsV at hj
  rcases Nat.lt_trichotomy j v.toNat with q | q | q
  · have hj2 : L[j]? = some V := by grind
    obtain ⟨q1, q2, q3, q4⟩ := g3 j V hj2
    refine ⟨by rw [a1 j (by omega) (by omega)]; exact q1, q2, q3, fun k y hk => ?_⟩
    have : k < V.length := by grind
    rw [a2 j k (by omega) (by omega) (by omega) (by omega)]
    exact q4 k y hk
  · have hV : V = [x] := by grind
    have ej : (j : Int) = v := by omega
    subst hV
    rw [ej]
    refine ⟨by rw [b1]; rfl, by simp, by simp, fun k y hk => ?_⟩
    have hk0 : k = 0 := by grind
    subst hk0
    have hy : y = x := by grind
    subst hy
    exact ⟨b2, hx.1, hx.2⟩
  · have hj2 : L[j - 1]? = some V := by grind
    obtain ⟨q1, q2, q3, q4⟩ := g3 (j - 1) V hj2
    have ec : ((j - 1 : Nat) : Int) = (j : Int) - 1 := by omega
    rw [ec] at q1
    refine ⟨by rw [c1 j (by omega) (by omega)]; exact q1, q2, q3, fun k y hk => ?_⟩
    have : k < V.length := by grind
    have q5 := q4 k y hk
    rw [ec] at q5
    rw [c2 j k (by omega) (by omega) (by omega) (by omega)]
    exact q5
theorem FR.delV {L : List (List Int)} {vc vc' : Int} {sc sc' : Int → Int} {nm nm' : Int → Int → Int} (h : FR L vc sc nm) {v : Int} (h0 : 0 ≤ v) (h1 : v < vc) (hv : vc' = vc - 1)
    (a1 : ∀ j : Int, 0 ≤ j → j < v → sc' j = sc j) (a2 : ∀ j k : Int, 0 ≤ j → j < v → 0 ≤ k → k < 4 → nm' j k = nm j k) (c1 : ∀ j : Int, v ≤ j → j < vc - 1 → sc' j = sc (j + 1)) (c2 : ∀ j k : Int, v ≤ j → j < vc - 1 → 0 ≤ k → k < 4 → nm' j k = nm (j + 1) k) : FR (fDelV L v) vc' sc' nm' := by
  obtain ⟨g1, g2, g3⟩ := h
  have hL : (fDelV L v).length = L.length - 1 := by unfold fDelV; grind
  refine ⟨by omega, by omega, fun j V hj => ?_⟩
  have hjl : j < L.length - 1 := by grind
  unfold fDelV at hj
  by_cases q : j < v.toNat
  · have hj2 : L[j]? = some V := by grind
    obtain ⟨q1, q2, q3, q4⟩ := g3 j V hj2
    refine ⟨by rw [a1 j (by omega) (by omega)]; exact q1, q2, q3, fun k y hk => ?_⟩
    have : k < V.length := by grind
    rw [a2 j k (by omega) (by omega) (by omega) (by omega)]
    exact q4 k y hk
  · have hj2 : L[j + 1]? = some V := by grind
    obtain ⟨q1, q2, q3, q4⟩ := g3 (j + 1) V hj2
    refine ⟨by rw [c1 j (by omega) (by omega)]; exact q1, q2, q3, fun k y hk => ?_⟩
    have : k < V.length := by grind
    rw [c2 j k (by omega) (by omega) (by omega) (by omega)]
    exact q4 k y hk
/-- a new list in the place of one value -/
theorem FR.setV {L : List (List Int)} {vc vc' : Int} {sc sc' : Int → Int} {nm nm' : Int → Int → Int} (h : FR L vc sc nm) {v : Int} (h0 : 0 ≤ v) (h1 : v < vc) (W : List Int) (w1 : 1 ≤ W.length) (w2 : W.length ≤ 4) (hv : vc' = vc)
    (a1 : ∀ j : Int, 0 ≤ j → j < vc → j ≠ v → sc' j = sc j) (a2 : ∀ j k : Int, 0 ≤ j → j < vc → j ≠ v → 0 ≤ k → k < 4 → nm' j k = nm j k) (b1 : sc' v = W.length) (b2 : ∀ (k : Nat) (x : Int), W[k]? = some x → nm' v k = x ∧ -999 ≤ x ∧ x ≤ 999) : FR (L.set v.toNat W) vc' sc' nm' := by
  obtain ⟨g1, g2, g3⟩ := h
  refine ⟨by simp; omega, by simp; omega, fun j V hj => ?_⟩
  have hjl : j < L.length := by grind
  by_cases q : j = v.toNat
  · have hV : V = W := by grind
    have ej : (j : Int) = v := by omega
    subst hV
    rw [ej]
    exact ⟨b1, w1, w2, b2⟩
  · have hj2 : L[j]? = some V := by grind
    obtain ⟨q1, q2, q3, q4⟩ := g3 j V hj2
    refine ⟨by rw [a1 j (by omega) (by omega) (by omega)]; exact q1, q2, q3, fun k y hk => ?_⟩
    have : k < V.length := by grind
    rw [a2 j k (by omega) (by omega) (by omega) (by omega) (by omega)]
    exact q4 k y hk
theorem FR.insS {L : List (List Int)} {vc vc' x : Int} {sc sc' : Int → Int} {nm nm' : Int → Int → Int} (h : FR L vc sc nm) {v u : Int} (h0 : 0 ≤ v) (h1 : v < vc) (u0 : 0 ≤ u) (u1 : u ≤ sc v) (u2 : sc v < 4) (hx : -999 ≤ x ∧ x ≤ 999) (hv : vc' = vc)
    (a1 : ∀ j : Int, 0 ≤ j → j < vc → j ≠ v → sc' j = sc j) (a2 : ∀ j k : Int, 0 ≤ j → j < vc → j ≠ v → 0 ≤ k → k < 4 → nm' j k = nm j k) (b1 : sc' v = sc v + 1) (b2 : ∀ k : Int, 0 ≤ k → k < u → nm' v k = nm v k) (b3 : nm' v u = x) (b4 : ∀ k : Int, u < k → k ≤ sc v → nm' v k = nm v (k - 1)) : FR (fInsS L v u x) vc' sc' nm' := by
  obtain ⟨e, e1, e2, e3⟩ := h.val h0 h1
  have hl : ((fV L v).insertIdx u.toNat x).length = (fV L v).length + 1 := by rw [List.length_insertIdx]; grind
  refine h.setV h0 h1 _ (by omega) (by omega) hv a1 a2 (by omega) (fun k y hk => ?_)
  have hk2 : k < (fV L v).length + 1 := by grind
  rcases Nat.lt_trichotomy k u.toNat with q | q | q
  · have hk3 : (fV L v)[k]? = some y := by grind
    have z := (h.2.2 v.toNat _ e).2.2.2 k _ hk3
    rw [Int.toNat_of_nonneg h0] at z
    rw [b2 k (by omega) (by omega)]
    exact z
  · have hy : y = x := by grind
    have ek : (k : Int) = u := by omega
    rw [ek, hy]
    exact ⟨b3, hx⟩
  · have hk3 : (fV L v)[k - 1]? = some y := by grind
    have z := (h.2.2 v.toNat _ e).2.2.2 (k - 1) _ hk3
    rw [Int.toNat_of_nonneg h0, show ((k - 1 : Nat) : Int) = (k : Int) - 1 by omega] at z
    rw [b4 k (by omega) (by omega)]
    exact z
theorem FR.chg {L : List (List Int)} {vc vc' x : Int} {sc sc' : Int → Int} {nm nm' : Int → Int → Int} (h : FR L vc sc nm) {v u : Int} (h0 : 0 ≤ v) (h1 : v < vc) (u0 : 0 ≤ u) (u1 : u < sc v) (hx : -999 ≤ x ∧ x ≤ 999) (hv : vc' = vc)
    (a1 : ∀ j : Int, 0 ≤ j → j < vc → sc' j = sc j) (a2 : ∀ j k : Int, 0 ≤ j → j < vc → 0 ≤ k → k < 4 → (j ≠ v ∨ k ≠ u) → nm' j k = nm j k) (b3 : nm' v u = x) : FR (fChg L v u x) vc' sc' nm' := by
  obtain ⟨e, e1, e2, e3⟩ := h.val h0 h1
  refine h.setV h0 h1 _ (by simp; omega) (by simp; omega) hv (fun j q1 q2 _ => a1 j q1 q2) (fun j k q1 q2 q3 q4 q5 => a2 j k q1 q2 q4 q5 (Or.inl q3)) (by rw [a1 v h0 h1, e1]; simp) (fun k y hk => ?_)
  have hk2 : k < (fV L v).length := by grind
  by_cases q : k = u.toNat
  · have hy : y = x := by grind
    have ek : (k : Int) = u := by omega
    rw [ek, hy]
    exact ⟨b3, hx⟩
  · have hk3 : (fV L v)[k]? = some y := by grind
    have z := (h.2.2 v.toNat _ e).2.2.2 k _ hk3
    rw [Int.toNat_of_nonneg h0] at z
    rw [a2 v k h0 h1 (by omega) (by omega) (Or.inr (by omega))]
    exact z
theorem FR.delS {L : List (List Int)} {vc vc' : Int} {sc sc' : Int → Int} {nm nm' : Int → Int → Int} (h : FR L vc sc nm) {v u : Int} (h0 : 0 ≤ v) (h1 : v < vc) (u0 : 0 ≤ u) (u1 : u < sc v) (u2 : sc v ≠ 1) (hv : vc' = vc)
    (a1 : ∀ j : Int, 0 ≤ j → j < vc → j ≠ v → sc' j = sc j) (a2 : ∀ j k : Int, 0 ≤ j → j < vc → j ≠ v → 0 ≤ k → k < 4 → nm' j k = nm j k) (b1 : sc' v = sc v - 1) (b2 : ∀ k : Int, 0 ≤ k → k < u → nm' v k = nm v k) (b4 : ∀ k : Int, u ≤ k → k < sc v - 1 → nm' v k = nm v (k + 1)) : FR (fDelS L v u) vc' sc' nm' := by
  obtain ⟨e, e1, e2, e3⟩ := h.val h0 h1
  have hl : ((fV L v).eraseIdx u.toNat).length = (fV L v).length - 1 := by grind
  refine h.setV h0 h1 _ (by omega) (by omega) hv a1 a2 (by omega) (fun k y hk => ?_)
  have hk2 : k < (fV L v).length - 1 := by grind
  by_cases q : k < u.toNat
  · have hk3 : (fV L v)[k]? = some y := by grind
    have z := (h.2.2 v.toNat _ e).2.2.2 k _ hk3
    rw [Int.toNat_of_nonneg h0] at z
    rw [b2 k (by omega) (by omega)]
    exact z
  · have hk3 : (fV L v)[k + 1]? = some y := by grind
    have z := (h.2.2 v.toNat _ e).2.2.2 (k + 1) _ hk3
    rw [Int.toNat_of_nonneg h0, show ((k + 1 : Nat) : Int) = (k : Int) + 1 by omega] at z
    rw [b4 k (by omega) (by omega)]
    exact z
