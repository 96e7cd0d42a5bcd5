/-! PRINTING: the text of a record -/
def numT (x : Int) : List Int := (if x < 0 then [45] else []) ++ (if 100 ≤ x.natAbs then [48 + (x.natAbs : Int) / 100] else []) ++ (if 10 ≤ x.natAbs then [48 + (x.natAbs : Int) / 10 % 10] else []) ++ [48 + (x.natAbs : Int) % 10]
def prV (k : Nat) : List Int → List Int
  | [] => []
  | x :: V => (if 0 < k then [47] else []) ++ numT x ++ prV (k + 1) V
def prL (v : Nat) : List (List Int) → List Int
  | [] => []
  | V :: L => (if 0 < v then [93] else []) ++ prV 0 V ++ prL (v + 1) L
def prR (F : Int → List (List Int)) : Nat → List Int
  | 0 => []
  | f + 1 => prR F f ++ (if 0 < f then [94] else []) ++ prL 0 (F f)
def a_print (a : aA) (id : Int) : Int × aA := if id ∉ sI (aNow a) then (-1000001, a) else ((prR (sF (aNow a) id) 4).length, (aNow a, aH a, aT a, prR (sF (aNow a) id) 4))
theorem numT_len (x : Int) : 1 ≤ (numT x).length ∧ (numT x).length ≤ 4 := by
  unfold numT
  by_cases h1 : x < 0 <;> by_cases h2 : 100 ≤ x.natAbs <;> by_cases h3 : 10 ≤ x.natAbs <;> simp [h1, h2, h3]
theorem prV_len (V : List Int) : ∀ k : Nat, (prV k V).length + (if k = 0 ∧ V ≠ [] then 1 else 0) ≤ 5 * V.length := by
  induction V with
  | nil => intro k; simp [prV]
  | cons x V ih =>
    intro k
    have h1 := numT_len x
    have h2 := ih (k + 1)
    simp [prV] at h2 ⊢
    by_cases hk : k = 0
    · simp [hk] at h2 ⊢
      omega
    · have : 0 < k := by omega
      simp [hk, this] at h2 ⊢
      omega
theorem prL_len (L : List (List Int)) (h : ∀ V ∈ L, 1 ≤ V.length ∧ V.length ≤ 4) : ∀ v : Nat, (prL v L).length + (if v = 0 ∧ L ≠ [] then 1 else 0) ≤ 20 * L.length := by
  induction L with
  | nil => intro v; simp [prL]
  | cons V L ih =>
    intro v
    have h0 := h V (by simp)
    have h1 := prV_len V 0
    have h2 := ih (fun W hW => h W (by simp [hW])) (v + 1)
    have hV : V ≠ [] := by intro e; subst e; simp at h0
    simp [hV] at h1
    simp [prL] at h2 ⊢
    by_cases hk : v = 0
    · simp [hk] at h2 ⊢
      omega
    · have : 0 < v := by omega
      simp [hk, this] at h2 ⊢
      omega
theorem FR.prl {L : List (List Int)} {vc : Int} {sc : Int → Int} {nm : Int → Int → Int} (h : FR L vc sc nm) : (prL 0 L).length ≤ 99 := by
  have h1 := h.2.1
  have h2 := prL_len L (fun V hV => by obtain ⟨i, hi⟩ := List.getElem?_of_mem hV; have := h.2.2 i V hi; exact ⟨this.2.1, this.2.2.1⟩) 0
  by_cases e : L = []
  · subst e; simp [prL]
  · simp [e] at h2
    omega
theorem prR_len {M : jM} {r : Int} {F : Int → List (List Int)} (h : RF M r F) (f : Nat) (hf : f ≤ 4) : (prR F f).length ≤ 100 * f := by
  induction f with
  | zero => simp [prR]
  | succ f ih =>
    have h1 := ih (by omega)
    have h2 := (h f (by omega) (by omega)).prl
    simp only [prR, List.length_append]
    by_cases e : f = 0
    · subst e; simp at h1 h2 ⊢; omega
    · have : 0 < f := by omega
      simp [this]
      omega
theorem jI_nat (n : Nat) : jI (n : Int) = nI n := by
  unfold jI nI
  exact Int32.ofInt_eq_ofNat
theorem jDiv_nat {a d : Nat} (ha : a < 2 ^ 31) (h0 : 0 < d) (hd : d < 2 ^ 31) : jDiv (a : Int) (d : Int) = ((a / d : Nat) : Int) := by
  unfold jDiv
  rw [jI_nat, jI_nat, pk_div ha h0 hd, nI_toInt (Nat.lt_of_le_of_lt (Nat.div_le_self _ _) ha)]
theorem jRem_nat {a d : Nat} (ha : a < 2 ^ 31) (h0 : 0 < d) (hd : d < 2 ^ 31) : jRem (a : Int) (d : Int) = ((a % d : Nat) : Int) := by
  unfold jRem
  rw [jI_nat, jI_nat, pk_rem ha h0 hd, nI_toInt (Nat.lt_of_le_of_lt (Nat.mod_le _ _) ha)]
theorem jDiv_i {a d : Int} (a0 : 0 ≤ a) (ha : a < 2147483648) (h0 : 0 < d) (hd : d < 2147483648) : jDiv a d = a / d := by
  obtain ⟨n, rfl⟩ := Int.eq_ofNat_of_zero_le a0
  obtain ⟨m, rfl⟩ := Int.eq_ofNat_of_zero_le (Int.le_of_lt h0)
  rw [jDiv_nat (by omega) (by omega) (by omega)]
  rfl
theorem jRem_i {a d : Int} (a0 : 0 ≤ a) (ha : a < 2147483648) (h0 : 0 < d) (hd : d < 2147483648) : jRem a d = a % d := by
  obtain ⟨n, rfl⟩ := Int.eq_ofNat_of_zero_le a0
  obtain ⟨m, rfl⟩ := Int.eq_ofNat_of_zero_le (Int.le_of_lt h0)
  rw [jRem_nat (by omega) (by omega) (by omega)]
  rfl
/-- the printed text so far -/
def PB (M0 M : jM) (B : List Int) : Prop := (∀ c : Int, c ≠ 239 → c ≠ 240 → M c = M0 c) ∧ M 239 1 = B.length ∧ ∀ (i : Nat) (x : Int), B[i]? = some x → M 240 i = x
theorem put_k {M0 M : jM} {B : List Int} {c : Int} {k : jM → Prop} (h : PB M0 M B) (hl : B.length < 400) (hc : 0 ≤ c ∧ c < 65536) (H : ∀ M', PB M0 M' (B ++ [c]) → k M') : w_X3_put M 239 c k := by
  unfold w_X3_put
  have ek : jK (239 + 1) % 10000 = 400 := by decide
  have ec : jChr c = c := by unfold jChr; omega
  rw [h.2.1, ek, ec, if_pos (by omega)]
  simp only [jL, Int.reduceAdd]
  have e1 : jU M 240 (B.length : Int) c 239 1 = B.length := by rw [jU_row (by omega)]; exact h.2.1
  rw [e1, jW_id (by omega)]
  refine ⟨by omega, H _ ⟨fun y h1 h2 => by rw [jU_row h1, jU_row h2]; exact h.1 y h1 h2, by simp [jU], fun i x hi => ?_⟩⟩
  rw [jU_row (by omega)]
  by_cases z : i < B.length
  · rw [List.getElem?_append_left z] at hi
    simp only [jU]
    rw [if_neg (by omega)]
    exact h.2.2 i x hi
  · have hz : i = B.length := by
      have := (List.getElem?_eq_some_iff.mp hi).1
      simp at this
      omega
    subst hz
    have : x = c := by simpa using hi.symm
    subst this
    simp [jU]
theorem putNumber_k {M0 M : jM} {B : List Int} {x : Int} {k : jM → Prop} (h : PB M0 M B) (hx : sNum x) (hl : B.length + (numT x).length ≤ 400) (H : ∀ M', PB M0 M' (B ++ numT x) → k M') : w_X3_putNumber M 239 x k := by
  unfold w_X3_putNumber
  have ea : jAbs x = (x.natAbs : Int) := by
    unfold jAbs
    split
    · omega
    · rw [jW_id (by omega)]; omega
  have hn : (x.natAbs : Int) ≤ 999 := by omega
  simp only [jL, ea]
  have d1 := jDiv_i (a := (x.natAbs : Int)) (d := 100) (by omega) (by omega) (by omega) (by omega)
  have d2 := jDiv_i (a := (x.natAbs : Int)) (d := 10) (by omega) (by omega) (by omega) (by omega)
  have d3 := jRem_i (a := (x.natAbs : Int)) (d := 10) (by omega) (by omega) (by omega) (by omega)
  have d4 := jRem_i (a := (x.natAbs : Int) / 10) (d := 10) (by omega) (by omega) (by omega) (by omega)
  rw [d1, d2, d3, d4, jW_id (by omega), jW_id (by omega), jW_id (by omega)]
  -- the last digits
  have s3 : ∀ (M1 : jM) (C : List Int), PB M0 M1 C → C.length + (if 10 ≤ x.natAbs then 1 else 0) + 1 ≤ 400 → B ++ numT x = C ++ (if 10 ≤ x.natAbs then [48 + (x.natAbs : Int) / 10 % 10] else []) ++ [48 + (x.natAbs : Int) % 10] → (if (x.natAbs : Int) < 10 then w_X3_put M1 239 (48 + (x.natAbs : Int) % 10) (fun M6 => k M6) else w_X3_put M1 239 (48 + (x.natAbs : Int) / 10 % 10) (fun M7 => w_X3_put M7 239 (48 + (x.natAbs : Int) % 10) (fun M8 => k M8))) := by
    intro M1 C hC hl1 e
    by_cases z : 10 ≤ x.natAbs
    · rw [if_pos z] at hl1 e
      rw [if_neg (by omega)]
      refine put_k hC (by omega) (by omega) (fun M2 h2 => put_k h2 (by simp; omega) (by omega) (fun M3 h3 => H M3 ?_))
      rw [e]; exact h3
    · rw [if_neg z] at hl1 e
      rw [if_pos (by omega)]
      refine put_k hC (by omega) (by omega) (fun M2 h2 => H M2 ?_)
      rw [e]; simpa using h2
  have s2 : ∀ (M1 : jM) (C : List Int), PB M0 M1 C → C.length + (if 100 ≤ x.natAbs then 1 else 0) + (if 10 ≤ x.natAbs then 1 else 0) + 1 ≤ 400 → B ++ numT x = C ++ (if 100 ≤ x.natAbs then [48 + (x.natAbs : Int) / 100] else []) ++ (if 10 ≤ x.natAbs then [48 + (x.natAbs : Int) / 10 % 10] else []) ++ [48 + (x.natAbs : Int) % 10] → (if (x.natAbs : Int) < 100 then (if (x.natAbs : Int) < 10 then w_X3_put M1 239 (48 + (x.natAbs : Int) % 10) (fun M6 => k M6) else w_X3_put M1 239 (48 + (x.natAbs : Int) / 10 % 10) (fun M7 => w_X3_put M7 239 (48 + (x.natAbs : Int) % 10) (fun M8 => k M8))) else w_X3_put M1 239 (48 + (x.natAbs : Int) / 100) (fun M9 => (if (x.natAbs : Int) < 10 then w_X3_put M9 239 (48 + (x.natAbs : Int) % 10) (fun M6 => k M6) else w_X3_put M9 239 (48 + (x.natAbs : Int) / 10 % 10) (fun M7 => w_X3_put M7 239 (48 + (x.natAbs : Int) % 10) (fun M8 => k M8))))) := by
    intro M1 C hC hl1 e
    by_cases z : 100 ≤ x.natAbs
    · rw [if_pos z] at hl1 e
      rw [if_neg (by omega)]
      refine put_k hC (by omega) (by omega) (fun M2 h2 => s3 M2 _ h2 (by simp; omega) ?_)
      rw [e]
    · rw [if_neg z] at hl1 e
      rw [if_pos (by omega)]
      exact s3 M1 C hC (by omega) (by simpa using e)
  have hlen : (numT x).length = (if x < 0 then 1 else 0) + (if 100 ≤ x.natAbs then 1 else 0) + (if 10 ≤ x.natAbs then 1 else 0) + 1 := by
    unfold numT
    by_cases h1 : x < 0 <;> by_cases h2 : 100 ≤ x.natAbs <;> by_cases h3 : 10 ≤ x.natAbs <;> simp [h1, h2, h3]
  rw [hlen] at hl
  by_cases z : x < 0
  · rw [if_pos z] at hl ⊢
    refine put_k h (by omega) (by omega) (fun M2 h2 => s2 M2 _ h2 (by simp; omega) ?_)
    unfold numT
    rw [if_pos z]
    simp
  · rw [if_neg z] at hl ⊢
    refine s2 M B h (by omega) ?_
    unfold numT
    rw [if_neg z]
    simp
theorem RF.pb {M0 M : jM} {B : List Int} {r : Int} {F : Int → List (List Int)} (h : PB M0 M B) (hr : r ≤ 100) (hF : RF M0 r F) : RF M r F := hF.congr (h.1 _ (by omega) (by omega)) (h.1 _ (by omega) (by omega)) (h.1 _ (by omega) (by omega))
theorem printField_lp1 {M0 : jM} {r f v : Int} {F : Int → List (List Int)} {C : List Int} {kx : jM → Prop} (hr : r ≤ 100) (hF : RF M0 r F) (hf : sFld f) (v0 : 0 ≤ v) (v1 : v < fL (F f)) (hlen : C.length + (if 0 < v then 1 else 0) + (prV 0 (fV (F f) v)).length ≤ 400) (H : ∀ M', PB M0 M' (C ++ (if 0 < v then [93] else []) ++ prV 0 (fV (F f) v)) → kx M') :
    ∀ (d n p : Nat) (M : jM) (B : List Int), d < n → p + d = (fV (F f) v).length → PB M0 M B → B ++ (if p = 0 ∧ 0 < v then [93] else []) ++ prV p ((fV (F f) v).drop p) = C ++ (if 0 < v then [93] else []) ++ prV 0 (fV (F f) v) → lp_X6_printField_14 0 r f v kx n p M := by
  have hs := hF.sub hf v0 v1
  have hsl : fS (F f) v = (fV (F f) v).length := rfl
  intro d
  induction d with
  | zero =>
    intro n p M B hn hp hB e
    obtain ⟨n, rfl⟩ : ∃ m, n = m + 1 := ⟨n - 1, by omega⟩
    have hFM := RF.pb hB hr hF
    rw [lp_X6_printField_14, subCount_eq hFM hf v0 v1, if_neg (by omega)]
    rw [List.drop_of_length_le (by omega), if_neg (by omega)] at e
    simp [prV] at e
    rw [← List.append_assoc] at e
    exact H M (by rw [← e]; exact hB)
  | succ d ih =>
    intro n p M B hn hp hB e
    obtain ⟨n, rfl⟩ : ∃ m, n = m + 1 := ⟨n - 1, by omega⟩
    have hFM := RF.pb hB hr hF
    have hpl : p < (fV (F f) v).length := by omega
    have hnum := hF.num hf v0 v1 (w := (p : Int)) (by omega) (by omega)
    rw [lp_X6_printField_14, subCount_eq hFM hf v0 v1, if_pos (by omega)]
    rw [fN_drop hpl] at e
    have tot : B.length + (if p = 0 ∧ 0 < v then 1 else 0) + ((if 0 < p then 1 else 0) + (numT (fN (F f) v p)).length + (prV (p + 1) ((fV (F f) v).drop (p + 1))).length) ≤ 400 := by
      have := congrArg List.length e
      simp only [List.length_append, prV] at this
      have i1 : (if p = 0 ∧ 0 < v then [93] else ([] : List Int)).length = if p = 0 ∧ 0 < v then 1 else 0 := by split <;> rfl
      have i2 : (if 0 < p then [47] else ([] : List Int)).length = if 0 < p then 1 else 0 := by split <;> rfl
      have i3 : (if 0 < v then [93] else ([] : List Int)).length = if 0 < v then 1 else 0 := by split <;> rfl
      rw [i1, i2, i3] at this
      omega
    have go : ∀ (M1 : jM) (D : List Int), PB M0 M1 D → D.length + (numT (fN (F f) v p)).length ≤ 400 → D ++ numT (fN (F f) v p) ++ prV (p + 1) ((fV (F f) v).drop (p + 1)) = C ++ (if 0 < v then [93] else []) ++ prV 0 (fV (F f) v) → w_X1_numberOf M1 r f v p (fun x10 => w_X3_putNumber M1 239 x10 (fun M11 => jL (jW ((p : Int) + 1)) (fun x12 => lp_X6_printField_14 0 r f v kx n x12 M11))) := by
      intro M1 D hD hDl eD
      rw [numberOf_eq (RF.pb hD hr hF) hf v0 v1 (by omega) (by omega)]
      refine putNumber_k hD ⟨hnum.2.1, hnum.2.2⟩ hDl (fun M2 h2 => ?_)
      simp (disch := omega) only [jL, jW_id]
      refine ih n (p + 1) M2 _ (by omega) (by omega) h2 ?_
      rw [if_neg (by omega)]
      simpa using eD
    simp only [Int.reduceAdd]
    by_cases z : p = 0
    · subst z
      rw [if_pos (by omega)]
      by_cases zv : v ≤ 0
      · rw [if_pos zv]
        rw [if_neg (by omega)] at e tot
        refine go M B hB (by simp at tot ⊢; omega) ?_
        simpa [prV] using e
      · rw [if_neg zv]
        rw [if_pos (by omega)] at e tot
        refine put_k hB (by omega) (by omega) (fun M1 h1 => go M1 _ h1 (by simp at tot ⊢; omega) ?_)
        simpa [prV] using e
    · rw [if_neg (by omega)]
      have zp : 0 < p := by omega
      rw [if_neg (by omega)] at e tot
      rw [if_pos zp] at tot
      refine put_k hB (by omega) (by omega) (fun M1 h1 => go M1 _ h1 (by simp; omega) ?_)
      simpa [prV, zp] using e
theorem printField_lp2 {N : Nat} {M0 : jM} {r f : Int} {F : Int → List (List Int)} {C : List Int} {kx : jM → Prop} (hN : 200 ≤ N) (hr : r ≤ 100) (hF : RF M0 r F) (hf : sFld f) (hlen : C.length + (prL 0 (F f)).length ≤ 400) (H : ∀ M', PB M0 M' (C ++ prL 0 (F f)) → kx M') :
    ∀ (d n p : Nat) (M : jM) (B : List Int), d < n → (p : Int) + d = fL (F f) → PB M0 M B → B ++ prL p ((F f).drop p) = C ++ prL 0 (F f) → lp_X6_printField_2 N 0 r f kx n p M := by
  have hl := hF.len hf
  intro d
  induction d with
  | zero =>
    intro n p M B hn hp hB e
    obtain ⟨n, rfl⟩ : ∃ m, n = m + 1 := ⟨n - 1, by omega⟩
    have hFM := RF.pb hB hr hF
    rw [lp_X6_printField_2, valueCount_eq hFM hf, if_neg (by omega)]
    rw [List.drop_of_length_le (by unfold fL at hp; omega)] at e
    simp [prL] at e
    exact H M (by rw [← e]; exact hB)
  | succ d ih =>
    intro n p M B hn hp hB e
    obtain ⟨n, rfl⟩ : ∃ m, n = m + 1 := ⟨n - 1, by omega⟩
    have hFM := RF.pb hB hr hF
    have hpl : p < (F f).length := by unfold fL at hp; omega
    have hs := hF.sub hf (v := (p : Int)) (by omega) (by omega)
    have hsl : fS (F f) (p : Int) = (fV (F f) p).length := rfl
    rw [lp_X6_printField_2, valueCount_eq hFM hf, if_pos (by omega)]
    rw [fV_drop hpl] at e
    have hp0 : (0 < (p : Int)) = (0 < p) := by simp
    have tot := congrArg List.length e
    simp only [List.length_append, prL] at tot
    refine printField_lp1 (C := B) hr hF hf (by omega) (by omega) ?_ (fun M1 h1 => ?_) (fV (F f) p).length N 0 M B (by omega) (by omega) hB (by simp)
    · have i3 : (if 0 < p then [93] else ([] : List Int)).length = if 0 < p then 1 else 0 := by split <;> rfl
      rw [i3] at tot
      simp only [hp0]
      omega
    · simp (disch := omega) only [jL, jW_id]
      refine ih n (p + 1) M1 _ (by omega) (by omega) h1 ?_
      simp only [hp0]
      simpa [prL] using e
theorem printField_k {N : Nat} {M0 M : jM} {r f : Int} {F : Int → List (List Int)} {B : List Int} {k : jM → Prop} (hN : 200 ≤ N) (hr : r ≤ 100) (hF : RF M0 r F) (hf : sFld f) (hB : PB M0 M B) (hlen : B.length + (prL 0 (F f)).length ≤ 400) (H : ∀ M', PB M0 M' (B ++ prL 0 (F f)) → k M') : w_X6_printField N M 0 r f k := by
  have hl := hF.len hf
  unfold w_X6_printField
  exact printField_lp2 (C := B) hN hr hF hf hlen H (fL (F f)).toNat N 0 M B (by omega) (by omega) hB (by simp)
theorem print_lp {N : Nat} {M0 : jM} {r : Int} {F : Int → List (List Int)} {kx : jM → Prop} (hN : 200 ≤ N) (hr : r ≤ 100) (hF : RF M0 r F) (H : ∀ M', PB M0 M' (prR F 4) → kx M') : ∀ (d n p : Nat) (M : jM), d < n → p + d = 4 → PB M0 M (prR F p) → lp_X6_print_26 N 0 r kx n p M := by
  intro d
  induction d with
  | zero =>
    intro n p M hn hp hB
    obtain ⟨n, rfl⟩ : ∃ m, n = m + 1 := ⟨n - 1, by omega⟩
    have : p = 4 := by omega
    subst this
    rw [lp_X6_print_26, if_neg (by omega)]
    exact H M hB
  | succ d ih =>
    intro n p M hn hp hB
    obtain ⟨n, rfl⟩ : ∃ m, n = m + 1 := ⟨n - 1, by omega⟩
    have l1 := prR_len hF p (by omega)
    have l2 := (hF p (by omega) (by omega)).prl
    rw [lp_X6_print_26, if_pos (by omega)]
    simp (disch := omega) only [jL, jW_id, Int.reduceAdd]
    by_cases z : p = 0
    · subst z
      rw [if_pos (by omega)]
      refine printField_k hN hr hF (by omega) hB (by omega) (fun M1 h1 => ih n 1 M1 (by omega) (by omega) ?_)
      simpa [prR] using h1
    · rw [if_neg (by omega)]
      have zz : 0 < p := by omega
      refine put_k hB (by omega) (by omega) (fun M1 h1 => printField_k hN hr hF (by omega) h1 (by simp; omega) (fun M2 h2 => ih n (p + 1) M2 (by omega) (by omega) ?_))
      simpa [prR, zz] using h2
theorem XR.setPr {M M' : jM} {a : aA} {P : List Int} (h : XR M a) (e : PB M M' P) (h2 : P.length ≤ 400) : XR M' (aNow a, aH a, aT a, P) := by
  obtain ⟨q1, q2, q3, q4, q5, q6, q7, q8, q9, q10, q11, q12, q13, q14⟩ := h
  obtain ⟨e, e1, e2⟩ := e
  have pin : ∀ i : Int, 0 ≤ i → i < 4 → 48 < M 48 i ∧ M 48 i < 191 := fun i h0 h1 => by obtain ⟨q, a1, a2, a3⟩ := q4 i h0 h1; omega
  have e48 := e 48 (by omega) (by omega)
  refine ⟨q1.congr (fun c h0 h1 => e c (by omega) (by omega)), by rw [e 0 (by omega) (by omega)]; exact q2, q3, fun i h0 h1 => by rw [e48]; exact q4 i h0 h1, fun i j a b c d => by rw [e48]; exact q5 i j a b c d, fun i h0 h1 j a b => by have := pin i h0 h1; rw [e48, e _ (by omega) (by omega)]; exact q6 i h0 h1 j a b, fun i h0 h1 j k a b c d => by have := pin i h0 h1; rw [e48, e _ (by omega) (by omega)]; exact q7 i h0 h1 j k a b c d, fun i s hi => ?_, by rw [e 237 (by omega) (by omega)]; exact q9, q10, fun i x hi => by rw [e 238 (by omega) (by omega)]; exact q11 i x hi, e1, h2, e2⟩
  have hi : (aH a)[i]? = some s := hi
  have hl : i < (aH a).length := (List.getElem?_eq_some_iff.mp hi).1
  have := pin i (by omega) (by omega)
  rw [e48]
  exact (q8 i s hi).congr (fun c h0 h1 => e c (by omega) (by omega))
theorem xs_print {N : Nat} {M : jM} {a : aA} {id : Int} {k : Int → jM → Prop} (hN : 200 ≤ N) (hX : XR M a) (H : ∀ M', frX M M' → XR M' (a_print a id).2 → k (a_print a id).1 M') : w_X6_print N M 0 id k := by
  unfold w_X6_print
  unfold a_print at H
  refine hX.find_k (by omega) (fun i r hi r0 r1 r2 hr => ?_) (fun hn => ?_)
  · rw [if_neg (by omega)]
    rw [if_neg (not_not_intro (List.mem_of_getElem? hi))] at H
    simp only [jL, Int.reduceAdd]
    have hl := prR_len hr.2.2.2 4 (by omega)
    refine print_lp hN (by omega) hr.2.2.2 (fun M1 h1 => ?_) 4 N 0 _ (by omega) (by omega) ⟨fun c c1 c2 => jU_row c1, by simp [jU, prR], fun i x hi => by simp [prR] at hi⟩
    rw [h1.2.1]
    exact H M1 (fun c hc => h1.1 c (by omega) (by omega)) (hX.setPr h1 (by omega))
  · rw [if_pos hn] at H
    rw [if_pos (by omega)]
    exact H M fr0 hX
