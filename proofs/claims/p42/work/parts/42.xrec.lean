/-! THE CLASS'S RECORDS -/
theorem b01 (c : Prop) [Decidable c] : ((if c then (1 : Int) else 0) = 0) = ¬ c := by by_cases h : c <;> simp [h]
theorem isBelow_eq (a l : Int) (k : Int → Prop) : w_X6_isBelow a l k = k (if 0 ≤ a ∧ a < l then 1 else 0) := by
  unfold w_X6_isBelow
  by_cases h : a < 0 <;> by_cases h2 : a < l <;> simp [h, h2] <;> grind
theorem isNumber_eq (a : Int) (k : Int → Prop) : w_X6_isNumber a k = k (if sNum a then 1 else 0) := by
  unfold w_X6_isNumber
  by_cases h : a < -999 <;> by_cases h2 : a ≤ 999 <;> simp [h, h2] <;> grind
theorem RF.congr {M M' : jM} {r : Int} {F : Int → List (List Int)} (h : RF M r F) (h1 : M' (r + 1) = M (r + 1)) (h2 : M' (r + 2) = M (r + 2)) (h3 : M' (r + 3) = M (r + 3)) : RF M' r F := by
  intro f f0 f1
  rw [h1, h2, h3]
  exact h f f0 f1
theorem RX.congr {M M' : jM} {r id k : Int} {F : Int → List (List Int)} (h : RX M r id k F) (h0 : M' r = M r) (h1 : M' (r + 1) = M (r + 1)) (h2 : M' (r + 2) = M (r + 2)) (h3 : M' (r + 3) = M (r + 3)) : RX M' r id k F :=
  ⟨by rw [h0]; exact h.1, by rw [h0]; exact h.2.1, h.2.2.1, h.2.2.2.congr h1 h2 h3⟩
theorem RF.len {M : jM} {r f : Int} {F : Int → List (List Int)} (h : RF M r F) (hf : sFld f) : M (r + 1) f = fL (F f) ∧ 0 ≤ fL (F f) ∧ fL (F f) ≤ 5 := by
  have := (h f hf.1 hf.2).len
  unfold fL
  omega
theorem RF.sub {M : jM} {r f v : Int} {F : Int → List (List Int)} (h : RF M r F) (hf : sFld f) (h0 : 0 ≤ v) (h1 : v < fL (F f)) : M (r + 2) (5 * f + v) = fS (F f) v ∧ 1 ≤ fS (F f) v ∧ fS (F f) v ≤ 4 := by
  have e := h.len hf
  have q := (h f hf.1 hf.2).val h0 (by omega)
  have e1 : M (r + 2) (5 * f + v) = ((fV (F f) v).length : Nat) := q.2.1
  unfold fS
  omega
theorem RF.num {M : jM} {r f v w : Int} {F : Int → List (List Int)} (h : RF M r F) (hf : sFld f) (h0 : 0 ≤ v) (h1 : v < fL (F f)) (w0 : 0 ≤ w) (w1 : w < fS (F f) v) : M (r + 3) (20 * f + 4 * v + w) = fN (F f) v w ∧ -999 ≤ fN (F f) v w ∧ fN (F f) v w ≤ 999 := by
  have e := h.len hf
  have e2 := h.sub hf h0 h1
  have q := (h f hf.1 hf.2).num h0 (by omega) w0 (by omega)
  have e1 : M (r + 3) (20 * f + 4 * v + w) = fN (F f) v w := q.2.1
  have q2 := q.2.2
  omega
theorem valueCount_eq {M : jM} {r f : Int} {F : Int → List (List Int)} (h : RF M r F) (hf : sFld f) (k : Int → Prop) : w_X1_valueCount M r f k = k (fL (F f)) := by
  unfold w_X1_valueCount
  rw [(h.len hf).1]
  simp only [jB, eq_iff_iff, and_iff_right_iff_imp]
  intro _; exact hf
theorem subCount_eq {M : jM} {r f v : Int} {F : Int → List (List Int)} (h : RF M r F) (hf : sFld f) (h0 : 0 ≤ v) (h1 : v < fL (F f)) (k : Int → Prop) : w_X1_subCount M r f v k = k (fS (F f) v) := by
  have e := h.len hf
  have e2 := h.sub hf h0 h1
  unfold w_X1_subCount
  simp (disch := omega) only [jW_id]
  rw [show f * 5 + v = 5 * f + v by omega, e2.1]
  simp only [jB, eq_iff_iff, and_iff_right_iff_imp]
  intro _; omega
theorem numberOf_eq {M : jM} {r f v w : Int} {F : Int → List (List Int)} (h : RF M r F) (hf : sFld f) (h0 : 0 ≤ v) (h1 : v < fL (F f)) (w0 : 0 ≤ w) (w1 : w < fS (F f) v) (k : Int → Prop) : w_X1_numberOf M r f v w k = k (fN (F f) v w) := by
  have e := h.len hf
  have e2 := h.sub hf h0 h1
  have e3 := h.num hf h0 h1 w0 w1
  unfold w_X1_numberOf
  simp (disch := omega) only [jW_id]
  rw [show f * 20 + v * 4 + w = 20 * f + 4 * v + w by omega, e3.1]
  simp only [jB, eq_iff_iff, and_iff_right_iff_imp]
  intro _; omega
theorem hasValue_eq {M : jM} {r : Int} {F : Int → List (List Int)} (h : RF M r F) (f v : Int) (k : Int → Prop) : w_X1_hasValue M r f v k = k (if sFld f ∧ 0 ≤ v ∧ v < fL (F f) then 1 else 0) := by
  unfold w_X1_hasValue
  simp only [isBelow_eq, b01, ite_not]
  by_cases hf : sFld f
  · have e := h.len hf
    rw [if_pos hf, e.1]
    by_cases h2 : 0 ≤ v ∧ v < fL (F f)
    · rw [if_pos h2, if_pos ⟨hf, h2⟩]; simp [jB, hf.1, hf.2]
    · rw [if_neg h2, if_neg (fun q => h2 q.2)]; simp [jB, hf.1, hf.2]
  · rw [if_neg hf, if_neg (fun q => hf q.1)]
theorem hasSub_eq {M : jM} {r : Int} {F : Int → List (List Int)} (h : RF M r F) (f v w : Int) (k : Int → Prop) : w_X1_hasSub M r f v w k = k (if sFld f ∧ (0 ≤ v ∧ v < fL (F f)) ∧ 0 ≤ w ∧ w < fS (F f) v then 1 else 0) := by
  unfold w_X1_hasSub
  simp only [hasValue_eq h, isBelow_eq, b01, ite_not]
  by_cases h1 : sFld f ∧ 0 ≤ v ∧ v < fL (F f)
  · rw [if_pos h1, subCount_eq h h1.1 h1.2.1 h1.2.2]
    by_cases h2 : 0 ≤ w ∧ w < fS (F f) v
    · rw [if_pos h2, if_pos ⟨h1.1, h1.2, h2⟩]
    · rw [if_neg h2, if_neg (fun q => h2 q.2.2)]
  · rw [if_neg h1, if_neg (fun q => h1 ⟨q.1, q.2.1⟩)]
theorem hasPart_eq {M : jM} {r : Int} {F : Int → List (List Int)} (h : RF M r F) (f v w : Int) (k : Int → Prop) : w_X1_hasPart M r f v w k = k (if sFld f ∧ (0 ≤ v ∧ v < fL (F f)) ∧ (w = -1 ∨ (0 ≤ w ∧ w < fS (F f) v)) then 1 else 0) := by
  unfold w_X1_hasPart
  simp only [hasValue_eq h, hasSub_eq h]
  by_cases h1 : w = -1
  · subst h1
    simp
  · rw [if_neg h1]
    congr 2
    simp [h1]
theorem hasRoomPlace_eq {M : jM} {r : Int} {F : Int → List (List Int)} (h : RF M r F) (f v w : Int) (k : Int → Prop) : w_X1_hasRoomPlace M r f v w k = k (if sFld f ∧ sPl (F f) v w then 1 else 0) := by
  unfold w_X1_hasRoomPlace
  simp only [hasValue_eq h, isBelow_eq, b01, ite_not]
  by_cases h1 : w = -1
  · rw [if_pos h1]
    by_cases hf : sFld f
    · have e := h.len hf
      rw [if_pos hf, e.1, jW_id (by omega)]
      by_cases h2 : 0 ≤ v ∧ v < fL (F f) + 1
      · rw [if_pos h2, if_pos ⟨hf, by omega⟩]; simp [jB, hf.1, hf.2]
      · rw [if_neg h2, if_neg (fun q => h2 (by omega))]; simp [jB, hf.1, hf.2]
    · rw [if_neg hf, if_neg (fun q => hf q.1)]
  · rw [if_neg h1]
    by_cases h2 : sFld f ∧ 0 ≤ v ∧ v < fL (F f)
    · have e := h.sub h2.1 h2.2.1 h2.2.2
      rw [if_pos h2, subCount_eq h h2.1 h2.2.1 h2.2.2, jW_id (by omega)]
      by_cases h3 : 0 ≤ w ∧ w < fS (F f) v + 1
      · rw [if_pos h3, if_pos ⟨h2.1, by omega⟩]
      · rw [if_neg h3, if_neg (fun q => h3 (by omega))]
    · rw [if_neg h2, if_neg (fun q => h2 ⟨q.1, by omega⟩)]
theorem isOpenTo_eq {M : jM} {r id K : Int} {F : Int → List (List Int)} (h : RX M r id K F) (u : Int) (k : Int → Prop) : w_X1_isOpenTo M r u k = k (if K = -1000007 ∨ K = u then 1 else 0) := by
  unfold w_X1_isOpenTo
  rw [h.2.1]
  by_cases h1 : K = -1000007 <;> by_cases h2 : K = u <;> simp [h1, h2]
/-! closed forms of the changes -/
def mvC (M : jM) (r f a b : Int) : jM := fun c i => if c = r + 2 ∧ i = 5 * f + b then M c (5 * f + a) else if c = r + 3 ∧ 20 * f + 4 * b ≤ i ∧ i < 20 * f + 4 * b + 4 then M c (i + 4 * (a - b)) else M c i
theorem moveValue_eq {M : jM} {r f a b : Int} (hf : sFld f) (ha : 0 ≤ a ∧ a < 5) (hb : 0 ≤ b ∧ b < 5) (k : jM → Prop) : w_X1_moveValue M r f a b k = k (mvC M r f a b) := by
  unfold w_X1_moveValue
  simp (disch := omega) only [jL, jW_id, jB, jBc]
  have e : jC (jU M (r + 2) (f * 5 + b) (M (r + 2) (f * 5 + a))) (r + 3) ((f * 5 + a) * 4) (r + 3) ((f * 5 + b) * 4) 4 = mvC M r f a b := by
    funext c i
    simp only [jU, jC, mvC]
    grind (splits := 20)
  rw [e]
  simp only [eq_iff_iff]
  exact ⟨fun q => q.2.2.2, fun q => ⟨by omega, by omega, by omega, q⟩⟩
def upC (M : jM) (r f v p : Int) : jM := fun c i => if c = r + 2 ∧ 5 * f + v < i ∧ i ≤ 5 * f + p then M c (i - 1) else if c = r + 3 ∧ 20 * f + 4 * v + 4 ≤ i ∧ i < 20 * f + 4 * p + 4 then M c (i - 4) else M c i
theorem addValue_lp {r f v : Int} {kx : jM → Prop} (hf : sFld f) (hv : 0 ≤ v) : ∀ (d n : Nat) (p : Int) (M : jM), d < n → p = v + d → p < 5 → kx (upC M r f v p) → lp_X1_addValue_19 r f v kx n p M := by
  intro d
  induction d with
  | zero =>
    intro n p M hn hp h5 h
    obtain ⟨n, rfl⟩ : ∃ m, n = m + 1 := ⟨n - 1, by omega⟩
    rw [lp_X1_addValue_19, if_pos (by omega)]
    have e : upC M r f v p = M := by
      funext c i
      unfold upC
      grind
    rw [e] at h
    exact h
  | succ d ih =>
    intro n p M hn hp h5 h
    obtain ⟨n, rfl⟩ : ∃ m, n = m + 1 := ⟨n - 1, by omega⟩
    rw [lp_X1_addValue_19, if_neg (by omega)]
    simp (disch := omega) only [jW_id, jL]
    rw [moveValue_eq hf (by omega) (by omega)]
    refine ih n (p + -1) _ (by omega) (by omega) (by omega) ?_
    have e : upC (mvC M r f (p - 1) p) r f v (p + -1) = upC M r f v p := by
      funext c i
      simp only [upC, mvC]
      grind (splits := 40)
    rw [e]
    exact h
def insC (M : jM) (r f v m x : Int) : jM := fun c i => if c = r + 1 ∧ i = f then m + 1 else if c = r + 2 ∧ i = 5 * f + v then 1 else if c = r + 2 ∧ 5 * f + v < i ∧ i ≤ 5 * f + m then M c (i - 1) else if c = r + 3 ∧ i = 20 * f + 4 * v then x else if c = r + 3 ∧ 20 * f + 4 * v + 4 ≤ i ∧ i < 20 * f + 4 * m + 4 then M c (i - 4) else M c i
theorem addValue_eq {N : Nat} {M : jM} {r f v x m : Int} (hN : 100 ≤ N) (hf : sFld f) (hv : 0 ≤ v) (hm : M (r + 1) f = m) (hv1 : v ≤ m) (hm5 : m < 5) {k : jM → Prop} (h : k (insC M r f v m x)) : w_X1_addValue N M r f v x k := by
  unfold w_X1_addValue
  rw [hm]
  simp only [jL, jB]
  refine ⟨by omega, ?_⟩
  rw [if_pos (by omega)]
  refine ⟨by omega, addValue_lp hf hv (m - v).toNat N m M (by omega) (by omega) (by omega) ?_⟩
  refine ⟨by omega, by omega, ?_⟩
  have e1 : upC M r f v m (r + 1) f = m := by
    unfold upC
    grind
  rw [e1]
  simp (disch := omega) only [jW_id]
  refine ⟨by omega, ?_⟩
  unfold w_X1_setNumber
  simp (disch := omega) only [jW_id, jL, jB]
  refine ⟨by omega, ?_⟩
  have e : jU (jU (jU (upC M r f v m) (r + 1) f (m + 1)) (r + 2) (f * 5 + v) 1) (r + 3) (f * 20 + v * 4 + 0) x = insC M r f v m x := by
    funext c i
    simp only [jU, upC, insC]
    grind (splits := 40)
  rw [e]
  exact h
