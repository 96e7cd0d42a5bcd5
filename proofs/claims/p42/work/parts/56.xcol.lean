/-! COLUMNS: the numbers that a column gives for a record -/
def fOK (L : List (List Int)) : Prop := L.length ≤ 5 ∧ ∀ V ∈ L, 1 ≤ V.length ∧ V.length ≤ 4 ∧ ∀ x ∈ V, -999 ≤ x ∧ x ≤ 999
theorem FR.ok {L : List (List Int)} {vc : Int} {sc : Int → Int} {nm : Int → Int → Int} (h : FR L vc sc nm) : fOK L := by
  refine ⟨h.2.1, fun V hV => ?_⟩
  obtain ⟨i, hi⟩ := List.getElem?_of_mem hV
  obtain ⟨q1, q2, q3, q4⟩ := h.2.2 i V hi
  refine ⟨q2, q3, fun x hx => ?_⟩
  obtain ⟨j, hj⟩ := List.getElem?_of_mem hx
  exact (q4 j x hj).2
theorem RF.ok {M : jM} {r f : Int} {F : rF} (h : RF M r F) (hf : sFld f) : fOK (F f) := (h f hf.1 hf.2).ok
def mxV : List Int → Int
  | [] => 0
  | x :: V => V.foldl jMax x
def colN (F : rF) (k f g : Int) : List Int :=
  if k = 0 then (F f).flatten else if k = 1 then [fL (F f)] else if k = 2 then [(F f).flatten.sum] else if k = 3 then (F f).map mxV else List.zipWith (fun V W => V.getD 0 0 * W.getD 0 0) (F f) (F g)
def colS (s : aS) (id c : Int) : List Int := colN (sF s id) (sC s c 0) (sC s c 1) (sC s c 2)
abbrev cBig (x : Int) : Prop := -998001 ≤ x ∧ x ≤ 998001
theorem sum_bd {B : List Int} (h : ∀ x ∈ B, cBig x) : -998001 * (B.length : Int) ≤ B.sum ∧ B.sum ≤ 998001 * (B.length : Int) := by
  induction B with
  | nil => simp
  | cons x B ih =>
    have h1 := ih (fun y hy => h y (by simp [hy]))
    have h2 := h x (by simp)
    simp only [List.sum_cons, List.length_cons]
    omega
theorem sum_bd2 {B : List Int} (h : ∀ x ∈ B, -999 ≤ x ∧ x ≤ 999) : -999 * (B.length : Int) ≤ B.sum ∧ B.sum ≤ 999 * (B.length : Int) := by
  induction B with
  | nil => simp
  | cons x B ih =>
    have h1 := ih (fun y hy => h y (by simp [hy]))
    have h2 := h x (by simp)
    simp only [List.sum_cons, List.length_cons]
    omega
theorem fOK.flat {L : List (List Int)} (h : fOK L) : L.flatten.length ≤ 20 ∧ ∀ x ∈ L.flatten, -999 ≤ x ∧ x ≤ 999 := by
  refine ⟨?_, fun x hx => ?_⟩
  · have h1 := nSubs_le (L := L) (fun V hV => (h.2 V hV).2.1)
    have h2 := h.1
    rw [List.length_flatten]
    unfold nSubs at h1
    omega
  · obtain ⟨V, hV, hx⟩ := List.mem_flatten.mp hx
    exact (h.2 V hV).2.2 x hx
theorem mx_bd {V : List Int} : ∀ {x : Int}, (-999 ≤ x ∧ x ≤ 999) → (∀ y ∈ V, -999 ≤ y ∧ y ≤ 999) → -999 ≤ V.foldl jMax x ∧ V.foldl jMax x ≤ 999 := by
  induction V with
  | nil => intro x h _; exact h
  | cons y V ih =>
    intro x h h2
    have hy := h2 y (by simp)
    exact ih (by unfold jMax; split <;> assumption) (fun z hz => h2 z (by simp [hz]))
theorem mul_bd {a b : Int} (ha : -999 ≤ a ∧ a ≤ 999) (hb : -999 ≤ b ∧ b ≤ 999) : cBig (a * b) := by
  have h : (a * b).natAbs ≤ 999 * 999 := by
    rw [Int.natAbs_mul]
    exact Nat.mul_le_mul (by omega) (by omega)
  omega
theorem head_bd {V : List Int} (h : 1 ≤ V.length) (h2 : ∀ x ∈ V, -999 ≤ x ∧ x ≤ 999) : -999 ≤ V.getD 0 0 ∧ V.getD 0 0 ≤ 999 := by
  rw [List.getD_eq_getElem?_getD, List.getElem?_eq_getElem (by omega)]
  exact h2 _ (List.getElem_mem _)
theorem col_ok {F : rF} {k f g : Int} (hf : fOK (F f)) (hg : fOK (F g)) : (colN F k f g).length ≤ 20 ∧ ∀ x ∈ colN F k f g, cBig x := by
  have h1 := hf.flat
  unfold colN
  by_cases k0 : k = 0
  · rw [if_pos k0]
    exact ⟨h1.1, fun x hx => by have := h1.2 x hx; omega⟩
  · rw [if_neg k0]
    by_cases k1 : k = 1
    · rw [if_pos k1]
      have := hf.1
      exact ⟨by simp, fun x hx => by have hx : x = fL (F f) := by simpa using hx
                                     unfold fL at hx
                                     omega⟩
    · rw [if_neg k1]
      by_cases k2 : k = 2
      · rw [if_pos k2]
        have h2 := sum_bd2 h1.2
        exact ⟨by simp, fun x hx => by have hx : x = (F f).flatten.sum := by simpa using hx
                                       omega⟩
      · rw [if_neg k2]
        by_cases k3 : k = 3
        · rw [if_pos k3]
          refine ⟨by rw [List.length_map]; have := hf.1; omega, fun x hx => ?_⟩
          obtain ⟨V, hV, rfl⟩ := List.mem_map.mp hx
          obtain ⟨q1, q2, q3⟩ := hf.2 V hV
          cases V with
          | nil => simp at q1
          | cons y V =>
            have := mx_bd (V := V) (q3 y (by simp)) (fun z hz => q3 z (by simp [hz]))
            show cBig (V.foldl jMax y)
            omega
        · rw [if_neg k3]
          refine ⟨by rw [List.length_zipWith]; have := hf.1; omega, fun x hx => ?_⟩
          rw [← List.map_uncurry_zip_eq_zipWith] at hx
          obtain ⟨⟨V, W⟩, hp, rfl⟩ := List.mem_map.mp hx
          have hV := hf.2 V (List.of_mem_zip hp).1
          have hW := hg.2 W (List.of_mem_zip hp).2
          exact mul_bd (head_bd hV.1 hV.2.2) (head_bd hW.1 hW.2.2)
/-- the sequence so far -/
def SQ (M0 M : jM) (B : List Int) : Prop := (∀ c : Int, c ≠ 246 → c ≠ 247 → M c = M0 c) ∧ M 246 1 = B.length ∧ ∀ (i : Nat) (x : Int), B[i]? = some x → M 247 i = x
theorem sqAdd_k {M0 M : jM} {B : List Int} {x : Int} {k : jM → Prop} (h : SQ M0 M B) (hl : B.length < 20) (H : ∀ M', SQ M0 M' (B ++ [x]) → k M') : w_X2_add M 246 x k := by
  unfold w_X2_add
  rw [h.2.1, if_pos (by omega)]
  simp only [jL, Int.reduceAdd]
  have e1 : jU M 247 (B.length : Int) x 246 1 = B.length := by rw [jU_row (by omega)]; exact h.2.1
  rw [e1, jW_id (by omega)]
  refine ⟨by omega, H _ ⟨fun y h1 h2 => by rw [jU_row h1, jU_row h2]; exact h.1 y h1 h2, by simp [jU], fun i z hi => ?_⟩⟩
  rw [jU_row (by omega)]
  by_cases q : i < B.length
  · rw [List.getElem?_append_left q] at hi
    simp only [jU]
    rw [if_neg (by omega)]
    exact h.2.2 i z hi
  · have hz : i = B.length := by
      have := (List.getElem?_eq_some_iff.mp hi).1
      simp at this
      omega
    subst hz
    have : z = x := by simpa using hi.symm
    subst this
    simp [jU]
theorem sqAt_eq {M0 M : jM} {B : List Int} (h : SQ M0 M B) (hl : B.length ≤ 20) {p : Int} (h0 : 0 ≤ p) (h1 : p < B.length) {k : Int → Prop} (H : k (B.getD p.toNat 0)) : w_X2_at M 246 p k := by
  unfold w_X2_at
  simp only [isBelow_eq, b01, ite_not, Int.reduceAdd]
  rw [h.2.1, if_pos ⟨h0, h1⟩]
  have hi : B[p.toNat]? = some (B.getD p.toNat 0) := by
    rw [List.getD_eq_getElem?_getD, List.getElem?_eq_getElem (by omega)]
    rfl
  have := h.2.2 _ _ hi
  rw [Int.toNat_of_nonneg h0] at this
  rw [this]
  exact ⟨by omega, H⟩
theorem RF.sq {M0 M : jM} {B : List Int} {r : Int} {F : rF} (h : SQ M0 M B) (hr : r ≤ 100) (hF : RF M0 r F) : RF M r F := hF.congr (h.1 _ (by omega) (by omega)) (h.1 _ (by omega) (by omega)) (h.1 _ (by omega) (by omega))
theorem sum_take {B : List Int} {p : Nat} (h : p < B.length) : (B.take (p + 1)).sum = (B.take p).sum + B.getD p 0 := by
  rw [List.take_succ, List.getElem?_eq_getElem h, List.sum_append, List.getD_eq_getElem?_getD, List.getElem?_eq_getElem h]
  simp
theorem sqSum_lp {M0 M : jM} {B : List Int} {kx : Int → Prop} (h : SQ M0 M B) (hl : B.length ≤ 20) (hb : ∀ x ∈ B, cBig x) (H : kx B.sum) : ∀ (d n p : Nat), d < n → p + d = B.length → lp_X2_sum_4 246 M kx n (B.take p).sum p := by
  intro d
  induction d with
  | zero =>
    intro n p hn hp
    obtain ⟨n, rfl⟩ : ∃ m, n = m + 1 := ⟨n - 1, by omega⟩
    rw [lp_X2_sum_4, h.2.1, if_neg (by omega), List.take_of_length_le (by omega)]
    exact H
  | succ d ih =>
    intro n p hn hp
    obtain ⟨n, rfl⟩ : ∃ m, n = m + 1 := ⟨n - 1, by omega⟩
    have hpl : p < B.length := by omega
    have hi : B[p]? = some (B.getD p 0) := by
      rw [List.getD_eq_getElem?_getD, List.getElem?_eq_getElem hpl]
      rfl
    have b1 := sum_bd (B := B.take (p + 1)) (fun x hx => hb x (List.mem_of_mem_take hx))
    rw [List.length_take] at b1
    rw [lp_X2_sum_4, h.2.1, if_pos (by omega), show (246 : Int) + 1 = 247 from rfl, h.2.2 p _ hi, ← sum_take hpl]
    simp (disch := omega) only [jL, jW_id]
    exact ⟨by omega, ih n (p + 1) (by omega) (by omega)⟩
theorem sqSum_k {N : Nat} {M0 M : jM} {B : List Int} {k : Int → Prop} (hN : 200 ≤ N) (h : SQ M0 M B) (hl : B.length ≤ 20) (hb : ∀ x ∈ B, cBig x) (H : k B.sum) : w_X2_sum N M 246 k := sqSum_lp h hl hb H B.length N 0 (by omega) (by omega)
theorem giveSubs_lp1 {M0 : jM} {r f v : Int} {F : rF} {C : List Int} {kx : jM → Prop} (hr : r ≤ 100) (hF : RF M0 r F) (hf : sFld f) (v0 : 0 ≤ v) (v1 : v < fL (F f)) (hC : C.length ≤ 20) (H : ∀ M', SQ M0 M' C → kx M') : ∀ (d n p : Nat) (M : jM) (B : List Int), d < n → p + d = (fV (F f) v).length → SQ M0 M B → B ++ (fV (F f) v).drop p = C → lp_X1_giveSubs_15 r f 246 v kx n p M := by
  have hsl : fS (F f) v = (fV (F f) v).length := rfl
  have hs := hF.sub hf v0 v1
  intro d
  induction d with
  | zero =>
    intro n p M B hn hp hB e
    obtain ⟨n, rfl⟩ : ∃ m, n = m + 1 := ⟨n - 1, by omega⟩
    rw [lp_X1_giveSubs_15, subCount_eq (RF.sq hB hr hF) hf v0 v1, if_neg (by omega)]
    rw [List.drop_of_length_le (by omega), List.append_nil] at e
    exact H M (by rw [← e]; exact hB)
  | succ d ih =>
    intro n p M B hn hp hB e
    obtain ⟨n, rfl⟩ : ∃ m, n = m + 1 := ⟨n - 1, by omega⟩
    have hpl : p < (fV (F f) v).length := by omega
    have hFM := RF.sq hB hr hF
    rw [lp_X1_giveSubs_15, subCount_eq hFM hf v0 v1, if_pos (by omega), numberOf_eq hFM hf v0 v1 (by omega) (by omega)]
    rw [fN_drop hpl] at e
    have el := congrArg List.length e
    simp only [List.length_append, List.length_cons] at el
    refine sqAdd_k hB (by omega) (fun M1 h1 => ?_)
    simp (disch := omega) only [jL, jW_id]
    exact ih n (p + 1) M1 _ (by omega) (by omega) h1 (by simpa using e)
theorem giveSubs_lp2 {N : Nat} {M0 : jM} {r f : Int} {F : rF} {C : List Int} {kx : jM → Prop} (hN : 200 ≤ N) (hr : r ≤ 100) (hF : RF M0 r F) (hf : sFld f) (hC : C.length ≤ 20) (H : ∀ M', SQ M0 M' C → kx M') : ∀ (d n p : Nat) (M : jM) (B : List Int), d < n → (p : Int) + d = fL (F f) → SQ M0 M B → B ++ ((F f).drop p).flatten = C → lp_X1_giveSubs_2 N r f 246 kx n p M := by
  have hl := hF.len hf
  intro d
  induction d with
  | zero =>
    intro n p M B hn hp hB e
    obtain ⟨n, rfl⟩ : ∃ m, n = m + 1 := ⟨n - 1, by omega⟩
    have hFM := RF.sq hB hr hF
    rw [lp_X1_giveSubs_2, (hFM.len hf).1, if_neg (by omega)]
    rw [List.drop_of_length_le (by unfold fL at hp; omega)] at e
    simp at e
    exact ⟨by omega, H M (by rw [← e]; exact hB)⟩
  | succ d ih =>
    intro n p M B hn hp hB e
    obtain ⟨n, rfl⟩ : ∃ m, n = m + 1 := ⟨n - 1, by omega⟩
    have hFM := RF.sq hB hr hF
    have hpl : p < (F f).length := by unfold fL at hp; omega
    have hs := hF.sub hf (v := (p : Int)) (by omega) (by omega)
    have hsl : fS (F f) (p : Int) = (fV (F f) p).length := rfl
    rw [fV_drop hpl] at e
    have el := congrArg List.length e
    simp only [List.length_append, List.flatten_cons] at el
    rw [lp_X1_giveSubs_2, (hFM.len hf).1, if_pos (by omega)]
    refine ⟨by omega, giveSubs_lp1 (C := B ++ fV (F f) p) hr hF hf (by omega) (by omega) (by simp; omega) (fun M1 h1 => ?_) (fV (F f) p).length N 0 M B (by omega) (by omega) hB (by simp)⟩
    simp (disch := omega) only [jL, jW_id]
    exact ih n (p + 1) M1 _ (by omega) (by omega) h1 (by simpa using e)
theorem giveSubs_k {N : Nat} {M0 M : jM} {r f : Int} {F : rF} {k : jM → Prop} (hN : 200 ≤ N) (hr : r ≤ 100) (hF : RF M0 r F) (hf : sFld f) (hB : SQ M0 M []) (H : ∀ M', SQ M0 M' (F f).flatten → k M') : w_X1_giveSubs N M r f 246 k := by
  have hl := hF.len hf
  exact giveSubs_lp2 hN hr hF hf (hF.ok hf).flat.1 H (fL (F f)).toNat N 0 M [] (by omega) (by omega) hB (by simp)
theorem greatest_lp1 {M : jM} {r f v : Int} {F : rF} {z : Int} {kx : Int → Prop} (hF : RF M r F) (hf : sFld f) (v0 : 0 ≤ v) (v1 : v < fL (F f)) (H : kx z) : ∀ (d n p : Nat) (x : Int), d < n → p + d = (fV (F f) v).length → ((fV (F f) v).drop p).foldl jMax x = z → lp_X1_giveGreatest_24 r f v M kx n x p := by
  have hsl : fS (F f) v = (fV (F f) v).length := rfl
  have hs := hF.sub hf v0 v1
  intro d
  induction d with
  | zero =>
    intro n p x hn hp e
    obtain ⟨n, rfl⟩ : ∃ m, n = m + 1 := ⟨n - 1, by omega⟩
    rw [lp_X1_giveGreatest_24, subCount_eq hF hf v0 v1, if_neg (by omega)]
    rw [List.drop_of_length_le (by omega)] at e
    have e : x = z := e
    rw [e]
    exact H
  | succ d ih =>
    intro n p x hn hp e
    obtain ⟨n, rfl⟩ : ∃ m, n = m + 1 := ⟨n - 1, by omega⟩
    have hpl : p < (fV (F f) v).length := by omega
    rw [lp_X1_giveGreatest_24, subCount_eq hF hf v0 v1, if_pos (by omega), numberOf_eq hF hf v0 v1 (by omega) (by omega)]
    rw [fN_drop hpl] at e
    simp (disch := omega) only [jL, jW_id]
    exact ih n (p + 1) _ (by omega) (by omega) e
theorem greatest_lp2 {N : Nat} {M0 : jM} {r f : Int} {F : rF} {C : List Int} {kx : jM → Prop} (hN : 200 ≤ N) (hr : r ≤ 100) (hF : RF M0 r F) (hf : sFld f) (hC : C.length ≤ 20) (H : ∀ M', SQ M0 M' C → kx M') : ∀ (d n p : Nat) (M : jM) (B : List Int), d < n → (p : Int) + d = fL (F f) → SQ M0 M B → B ++ ((F f).drop p).map mxV = C → lp_X1_giveGreatest_2 N r f 246 kx n p M := by
  have hl := hF.len hf
  intro d
  induction d with
  | zero =>
    intro n p M B hn hp hB e
    obtain ⟨n, rfl⟩ : ∃ m, n = m + 1 := ⟨n - 1, by omega⟩
    have hFM := RF.sq hB hr hF
    rw [lp_X1_giveGreatest_2, (hFM.len hf).1, if_neg (by omega)]
    rw [List.drop_of_length_le (by unfold fL at hp; omega)] at e
    simp at e
    exact ⟨by omega, H M (by rw [← e]; exact hB)⟩
  | succ d ih =>
    intro n p M B hn hp hB e
    obtain ⟨n, rfl⟩ : ∃ m, n = m + 1 := ⟨n - 1, by omega⟩
    have hFM := RF.sq hB hr hF
    have hpl : p < (F f).length := by unfold fL at hp; omega
    have hs := hF.sub hf (v := (p : Int)) (by omega) (by omega)
    have hsl : fS (F f) (p : Int) = (fV (F f) p).length := rfl
    rw [fV_drop hpl] at e
    have el := congrArg List.length e
    simp only [List.length_append, List.map_cons, List.length_cons] at el
    rw [lp_X1_giveGreatest_2, (hFM.len hf).1, if_pos (by omega)]
    refine ⟨by omega, ?_⟩
    rw [numberOf_eq hFM hf (by omega) (by omega) (by omega) (by omega)]
    have h0 := fN_drop (L := F f) (v := (p : Int)) (p := 0) (by omega)
    have emx : ((fV (F f) p).drop 1).foldl jMax (fN (F f) p ((0 : Nat) : Int)) = mxV (fV (F f) p) := by
      rw [List.drop_zero] at h0
      conv => rhs; rw [h0]
      rfl
    refine greatest_lp1 hFM hf (by omega) (by omega) ?_ ((fV (F f) p).length - 1) N 1 _ (by omega) (by omega) emx
    refine sqAdd_k hB (by omega) (fun M1 h1 => ?_)
    simp (disch := omega) only [jL, jW_id]
    exact ih n (p + 1) M1 _ (by omega) (by omega) h1 (by simpa using e)
theorem greatest_k {N : Nat} {M0 M : jM} {r f : Int} {F : rF} {k : jM → Prop} (hN : 200 ≤ N) (hr : r ≤ 100) (hF : RF M0 r F) (hf : sFld f) (hB : SQ M0 M []) (H : ∀ M', SQ M0 M' ((F f).map mxV) → k M') : w_X1_giveGreatest N M r f 246 k := by
  have hl := hF.len hf
  exact greatest_lp2 hN hr hF hf (by rw [List.length_map]; have := (hF.ok hf).1; omega) H (fL (F f)).toNat N 0 M [] (by omega) (by omega) hB (by simp)
abbrev pHd (V W : List Int) : Int := V.getD 0 0 * W.getD 0 0
theorem products_lp {M0 : jM} {r f g : Int} {F : rF} {kx : jM → Prop} (hr : r ≤ 100) (hF : RF M0 r F) (hf : sFld f) (hg : sFld g) (H : ∀ M', SQ M0 M' (List.zipWith pHd (F f) (F g)) → kx M') : ∀ (d n p : Nat) (M : jM) (B : List Int), d < n → p + d = (List.zipWith pHd (F f) (F g)).length → SQ M0 M B → B ++ (List.zipWith pHd (F f) (F g)).drop p = List.zipWith pHd (F f) (F g) → lp_X1_giveProducts_20 r f g 246 ((List.zipWith pHd (F f) (F g)).length : Int) kx n p M := by
  have hl := hF.len hf
  have hl2 := hF.len hg
  unfold fL at hl hl2
  have hz : (List.zipWith pHd (F f) (F g)).length = min (F f).length (F g).length := List.length_zipWith
  intro d
  induction d with
  | zero =>
    intro n p M B hn hp hB e
    obtain ⟨n, rfl⟩ : ∃ m, n = m + 1 := ⟨n - 1, by omega⟩
    rw [lp_X1_giveProducts_20, if_neg (by omega)]
    rw [List.drop_of_length_le (by omega), List.append_nil] at e
    exact H M (by rw [← e]; exact hB)
  | succ d ih =>
    intro n p M B hn hp hB e
    obtain ⟨n, rfl⟩ : ∃ m, n = m + 1 := ⟨n - 1, by omega⟩
    have hFM := RF.sq hB hr hF
    have hpl : p < (List.zipWith pHd (F f) (F g)).length := by omega
    have s1 := hF.sub hf (v := (p : Int)) (by omega) (by unfold fL; omega)
    have s2 := hF.sub hg (v := (p : Int)) (by omega) (by unfold fL; omega)
    rw [lp_X1_giveProducts_20, if_pos (by omega), numberOf_eq hFM hf (by omega) (by unfold fL; omega) (by omega) (by omega), numberOf_eq hFM hg (by omega) (by unfold fL; omega) (by omega) (by omega)]
    have n1 := hF.num hf (v := (p : Int)) (w := 0) (by omega) (by unfold fL; omega) (by omega) (by omega)
    have n2 := hF.num hg (v := (p : Int)) (w := 0) (by omega) (by unfold fL; omega) (by omega) (by omega)
    have hm := mul_bd n1.2 n2.2
    have ez : (List.zipWith pHd (F f) (F g))[p]? = some (fN (F f) p 0 * fN (F g) p 0) := by
      rw [List.getElem?_zipWith, List.getElem?_eq_getElem (by omega), List.getElem?_eq_getElem (by omega)]
      show some (pHd _ _) = _
      unfold fN fV
      simp [pHd, List.getD_eq_getElem?_getD, List.getElem?_eq_getElem (show p < (F f).length by omega), List.getElem?_eq_getElem (show p < (F g).length by omega)]
    rw [drop_at ez] at e
    have el := congrArg List.length e
    simp only [List.length_append, List.length_cons] at el
    rw [jW_id (by omega)]
    refine sqAdd_k hB (by omega) (fun M1 h1 => ?_)
    simp (disch := omega) only [jL, jW_id]
    exact ih n (p + 1) M1 _ (by omega) (by omega) h1 (by simpa using e)
theorem gather_k {N : Nat} {M : jM} {r id c : Int} {K : Int} {s : aS} {k : jM → Prop} (hN : 200 ≤ N) (hS : XS M 1 s) (hr : r ≤ 100) (hR : RX M r id K (sF s id)) (hc : sCol c) (H : ∀ M', SQ M M' (colS s id c) → k M') : w_X4_gather N M 1 r c 246 k := by
  unfold w_X4_gather
  have hC := hS.col hc
  have hk := hS.1.2.2.2.2 c hc
  have hF := hR.2.2.2
  simp only [jL]
  have c1 : ∀ y : Int, y ≠ 246 → jU M 246 1 0 y = M y := fun y hy => jU_row hy
  rw [c1 (1 + 43) (by omega), c1 (1 + 44) (by omega), c1 (1 + 45) (by omega), hC.1, hC.2.1, hC.2.2]
  have hB : SQ M (jU M 246 1 0) [] := ⟨fun y h1 h2 => c1 y h1, by simp [jU], fun i x hi => by simp at hi⟩
  unfold colS colN at H
  have hfl := (hF.ok hk.2.2.1).flat
  refine ⟨hc, ?_⟩
  by_cases k0 : sC s c 0 = 0
  · rw [if_pos k0] at H ⊢
    exact ⟨hc, giveSubs_k hN hr hF hk.2.2.1 hB H⟩
  · rw [if_neg k0] at H ⊢
    by_cases k1 : sC s c 0 = 1
    · rw [if_pos k1] at H ⊢
      rw [valueCount_eq (RF.sq hB hr hF) hk.2.2.1]
      exact ⟨hc, sqAdd_k hB (by decide) H⟩
    · rw [if_neg k1] at H ⊢
      by_cases k2 : sC s c 0 = 2
      · rw [if_pos k2] at H ⊢
        refine ⟨hc, ?_⟩
        unfold w_X1_giveSum
        refine giveSubs_k hN hr hF hk.2.2.1 hB (fun M1 h1 => sqSum_k hN h1 hfl.1 (fun x hx => by have := hfl.2 x hx; omega) ?_)
        simp only [jL]
        refine sqAdd_k (B := []) ⟨fun y q1 q2 => by rw [jU_row q1]; exact h1.1 y q1 q2, by simp [jU], fun i x hi => by simp at hi⟩ (by decide) H
      · rw [if_neg k2] at H ⊢
        by_cases k3 : sC s c 0 = 3
        · rw [if_pos k3] at H ⊢
          exact ⟨hc, greatest_k hN hr hF hk.2.2.1 hB H⟩
        · rw [if_neg k3] at H ⊢
          refine ⟨hc, hc, ?_⟩
          unfold w_X1_giveProducts
          have hFM := RF.sq hB hr hF
          have l1 := hFM.len hk.2.2.1
          have l2 := hFM.len hk.2.2.2
          rw [l1.1, l2.1]
          have em : jMin (fL (sF s id (sC s c 1))) (fL (sF s id (sC s c 2))) = ((List.zipWith pHd (sF s id (sC s c 1)) (sF s id (sC s c 2))).length : Int) := by
            rw [List.length_zipWith]
            unfold jMin fL
            split <;> omega
          simp only [jL]
          rw [em]
          have := products_lp (kx := k) hr hF hk.2.2.1 hk.2.2.2 H (List.zipWith pHd (sF s id (sC s c 1)) (sF s id (sC s c 2))).length N 0 (jU M 246 1 0) [] (by rw [List.length_zipWith]; unfold fL at l1; omega) (by omega) hB (by simp)
          exact ⟨hk.2.2.1, hk.2.2.2, this⟩
