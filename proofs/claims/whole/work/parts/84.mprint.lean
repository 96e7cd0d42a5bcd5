/-! PRINTING of the reference -/
def PM (M0 M : jM) (B : List Int) : Prop := (∀ c : Int, c ≠ 252 → c ≠ 257 → M c = M0 c) ∧ (∀ i : Int, i ≠ 7 → M 252 i = M0 252 i) ∧ M 252 7 = B.length ∧ ∀ (i : Nat) (x : Int), B[i]? = some x → M 257 i = x
theorem mput_k {M0 M : jM} {B : List Int} {c : Int} {k : jM → Prop} (h : PM M0 M B) (hl : B.length < 400) (H : ∀ M', PM M0 M' (B ++ [c]) → k M') : w_X7_writes M 252 c k := by
  obtain ⟨a1, a2, a3, a4⟩ := h
  unfold w_X7_writes
  rw [a3]
  simp only [jL, Int.reduceAdd]
  have e1 : jU M 257 (B.length : Int) c 252 7 = B.length := by rw [jU_row (by omega)]; exact a3
  rw [e1, jW_id (by omega)]
  refine ⟨by omega, H _ ⟨fun y h1 h2 => by rw [jU_row h1, jU_row h2]; exact a1 y h1 h2, fun i hi => by rw [jU_in hi, jU_row (by omega)]; exact a2 i hi, by simp [jU], fun i x hi => ?_⟩⟩
  rw [jU_row (by omega)]
  by_cases z : i < B.length
  · rw [List.getElem?_append_left z] at hi
    rw [jU_in (by omega)]
    exact a4 i x hi
  · have hz : i = B.length := by
      have := (List.getElem?_eq_some_iff.mp hi).1
      simp at this
      omega
    subst hz
    have : x = c := by simpa using hi.symm
    subst this
    simp [jU]
theorem mputNumber_k {M0 M : jM} {B : List Int} {x : Int} {k : jM → Prop} (h : PM M0 M B) (hx : sNum x) (hl : B.length + (numT x).length ≤ 400) (H : ∀ M', PM M0 M' (B ++ numT x) → k M') : w_X7_writesNumber M 252 x k := by
  unfold w_X7_writesNumber
  have hn : (x.natAbs : Int) ≤ 999 := by omega
  have d1 := jDiv_i (a := (x.natAbs : Int)) (d := 100) (by omega) (by omega) (by omega) (by omega)
  have d2 := jDiv_i (a := (x.natAbs : Int)) (d := 10) (by omega) (by omega) (by omega) (by omega)
  have d3 := jRem_i (a := (x.natAbs : Int)) (d := 10) (by omega) (by omega) (by omega) (by omega)
  have d4 := jRem_i (a := (x.natAbs : Int) / 10) (d := 10) (by omega) (by omega) (by omega) (by omega)
  have hlen : (numT x).length = (if x < 0 then 1 else 0) + (if 100 ≤ x.natAbs then 1 else 0) + (if 10 ≤ x.natAbs then 1 else 0) + 1 := by
    unfold numT
    by_cases h1 : x < 0 <;> by_cases h2 : 100 ≤ x.natAbs <;> by_cases h3 : 10 ≤ x.natAbs <;> simp [h1, h2, h3]
  rw [hlen] at hl
  -- the last digits
  have s3 : ∀ (M1 : jM) (C : List Int), PM M0 M1 C → C.length + (if 10 ≤ x.natAbs then 1 else 0) + 1 ≤ 400 → B ++ numT x = C ++ (if 10 ≤ x.natAbs then [48 + (x.natAbs : Int) / 10 % 10] else []) ++ [48 + (x.natAbs : Int) % 10] → (if (x.natAbs : Int) ≤ 9 then (w_X7_writes M1 252 (jW (48 + (jRem (x.natAbs : Int) 10))) (fun M7 => (k M7))) else (w_X7_writes M1 252 (jW (48 + (jRem (jDiv (x.natAbs : Int) 10) 10))) (fun M8 => (w_X7_writes M8 252 (jW (48 + (jRem (x.natAbs : Int) 10))) (fun M9 => (k M9)))))) := by
    intro M1 C hC hl1 e
    rw [d3, d2, d4, jW_id (a := 48 + (x.natAbs : Int) % 10) (by omega), jW_id (a := 48 + (x.natAbs : Int) / 10 % 10) (by omega)]
    by_cases z : 10 ≤ x.natAbs
    · rw [if_pos z] at hl1 e
      rw [if_neg (by omega)]
      refine mput_k hC (by omega) (fun M2 h2 => mput_k h2 (by simp; omega) (fun M3 h3 => H M3 ?_))
      rw [e]; exact h3
    · rw [if_neg z] at hl1 e
      rw [if_pos (by omega)]
      refine mput_k hC (by omega) (fun M2 h2 => H M2 ?_)
      rw [e]; simpa using h2
  have s2 : ∀ (M1 : jM) (C : List Int), PM M0 M1 C → C.length + (if 100 ≤ x.natAbs then 1 else 0) + (if 10 ≤ x.natAbs then 1 else 0) + 1 ≤ 400 → B ++ numT x = C ++ (if 100 ≤ x.natAbs then [48 + (x.natAbs : Int) / 100] else []) ++ (if 10 ≤ x.natAbs then [48 + (x.natAbs : Int) / 10 % 10] else []) ++ [48 + (x.natAbs : Int) % 10] → jL (fun (M6 : jM) => (if (x.natAbs : Int) ≤ 9 then (w_X7_writes M6 252 (jW (48 + (jRem (x.natAbs : Int) 10))) (fun M7 => (k M7))) else (w_X7_writes M6 252 (jW (48 + (jRem (jDiv (x.natAbs : Int) 10) 10))) (fun M8 => (w_X7_writes M8 252 (jW (48 + (jRem (x.natAbs : Int) 10))) (fun M9 => (k M9))))))) (fun j24_5 => (if (x.natAbs : Int) ≤ 99 then (j24_5 M1) else (w_X7_writes M1 252 (jW (48 + (jDiv (x.natAbs : Int) 100))) (fun M10 => (j24_5 M10))))) := by
    intro M1 C hC hl1 e
    simp only [jL]
    by_cases z : 100 ≤ x.natAbs
    · rw [if_pos z] at hl1 e
      rw [if_neg (by omega), d1, jW_id (a := 48 + (x.natAbs : Int) / 100) (by omega)]
      refine mput_k hC (by omega) (fun M2 h2 => s3 M2 _ h2 (by simp; omega) ?_)
      rw [e]
    · rw [if_neg z] at hl1 e
      rw [if_pos (by omega)]
      exact s3 M1 C hC (by omega) (by simpa using e)
  by_cases z : x < 0
  · have ev : jW (-x) = (x.natAbs : Int) := by rw [jW_id (by omega)]; omega
    rw [if_pos z] at hl
    simp only [jL] at s2 ⊢
    rw [if_pos z, ev, if_pos z]
    refine mput_k h (by omega) (fun M2 h2 => s2 M2 _ h2 (by simp; omega) ?_)
    unfold numT
    rw [if_pos z]
    simp
  · have ev : x = (x.natAbs : Int) := by omega
    rw [if_neg z] at hl
    simp only [jL] at s2 ⊢
    rw [if_neg z, if_neg z]
    have := s2 M B h (by omega) (by unfold numT; rw [if_neg z]; simp)
    rw [← ev] at this
    exact this
theorem RM.pm {M0 M : jM} {B : List Int} {o id K : Int} {F : rF} (h : PM M0 M B) (hR : RM M0 253 o id K F) : RM M 253 o id K F := hR.move (fun i _ _ => by rw [h.1 253 (by omega) (by omega)])
theorem mprF_lp1 {M0 : jM} {r id K f v : Int} {F : rF} {C : List Int} {kx : jM → Prop} (hr : sRec r) (hF : RM M0 253 (55 + 106 * r) id K F) (hf : sFld f) (v0 : 0 ≤ v) (v1 : v < fL (F f)) (hlen : C.length ≤ 400) (H : ∀ M', PM M0 M' C → kx M') :
    ∀ (d n p : Nat) (M : jM) (B : List Int), d < n → p + d = (fV (F f) v).length → PM M0 M B → B ++ prV p ((fV (F f) v).drop p) = C → lp_X7_writesField_25 252 r f v kx n p M := by
  have hl := hF.len hf
  have hs := hF.sub hf v0 v1
  have hsl : fS (F f) v = (fV (F f) v).length := rfl
  intro d
  induction d with
  | zero =>
    intro n p M B hn hp hB e
    obtain ⟨n, rfl⟩ : ∃ m, n = m + 1 := ⟨n - 1, by omega⟩
    have hFM := RM.pm hB hF
    rw [lp_X7_writesField_25, subsOf_eq hr hf (by omega), (hFM.sub hf v0 v1).1, if_neg (by omega)]
    rw [List.drop_of_length_le (by omega)] at e
    simp only [prV, List.append_nil] at e
    exact H M (by rw [← e]; exact hB)
  | succ d ih =>
    intro n p M B hn hp hB e
    obtain ⟨n, rfl⟩ : ∃ m, n = m + 1 := ⟨n - 1, by omega⟩
    have hFM := RM.pm hB hF
    have hpl : p < (fV (F f) v).length := by omega
    have hnum := hF.num hf v0 v1 (w := (p : Int)) (by omega) (by omega)
    rw [lp_X7_writesField_25, subsOf_eq hr hf (by omega), (hFM.sub hf v0 v1).1, if_pos (by omega)]
    rw [fN_drop hpl] at e
    simp only [prV] at e
    have tot := congrArg List.length e
    simp only [List.length_append] at tot
    have go : ∀ (M1 : jM) (D : List Int), PM M0 M1 D → D.length + (numT (fN (F f) v p)).length ≤ 400 → D ++ numT (fN (F f) v p) ++ prV (p + 1) ((fV (F f) v).drop (p + 1)) = C → w_X7_numberOf M1 252 r f v p (fun x12 => (w_X7_writesNumber M1 252 x12 (fun M13 => (jL (jW ((p : Int) + 1)) (fun x14 => (lp_X7_writesField_25 252 r f v kx n x14 M13)))))) := by
      intro M1 D hD hDl eD
      rw [mnum_eq hr hf (by omega) (by omega), ((RM.pm hD hF).num hf v0 v1 (w := (p : Int)) (by omega) (by omega)).1]
      refine mputNumber_k hD ⟨hnum.2.1, hnum.2.2⟩ hDl (fun M2 h2 => ?_)
      simp (disch := omega) only [jL, jW_id]
      exact ih n (p + 1) M2 _ (by omega) (by omega) h2 (by simpa using eD)
    by_cases z : p = 0
    · subst z
      rw [if_pos (by omega)]
      rw [if_neg (by omega)] at e tot
      refine go M B hB (by simp at tot ⊢; omega) (by simpa using e)
    · rw [if_neg (by omega)]
      rw [if_pos (by omega)] at e tot
      refine mput_k hB (by simp at tot; omega) (fun M1 h1 => go M1 _ h1 (by simp at tot ⊢; omega) (by simpa using e))
theorem mprF_lp2 {N : Nat} {M0 : jM} {r id K f : Int} {F : rF} {C : List Int} {kx : jM → Prop} (hN : 5000 ≤ N) (hr : sRec r) (hF : RM M0 253 (55 + 106 * r) id K F) (hf : sFld f) (hlen : C.length ≤ 400) (H : ∀ M', PM M0 M' C → kx M') :
    ∀ (d n p : Nat) (M : jM) (B : List Int), d < n → (p : Int) + d = fL (F f) → PM M0 M B → B ++ prL p ((F f).drop p) = C → lp_X7_writesField_2 N 252 r f kx n p M := by
  have hl := hF.len hf
  intro d
  induction d with
  | zero =>
    intro n p M B hn hp hB e
    obtain ⟨n, rfl⟩ : ∃ m, n = m + 1 := ⟨n - 1, by omega⟩
    have hFM := RM.pm hB hF
    rw [lp_X7_writesField_2, valuesOf_eq hr hFM hf, if_neg (by omega)]
    rw [List.drop_of_length_le (by unfold fL at hp; omega)] at e
    simp only [prL, List.append_nil] at e
    exact H M (by rw [← e]; exact hB)
  | succ d ih =>
    intro n p M B hn hp hB e
    obtain ⟨n, rfl⟩ : ∃ m, n = m + 1 := ⟨n - 1, by omega⟩
    have hFM := RM.pm hB hF
    have hpl : p < (F f).length := by unfold fL at hp; omega
    have hs := hF.sub hf (v := (p : Int)) (by omega) (by omega)
    have hsl : fS (F f) (p : Int) = (fV (F f) p).length := rfl
    rw [lp_X7_writesField_2, valuesOf_eq hr hFM hf, if_pos (by omega)]
    rw [fV_drop hpl] at e
    simp only [prL] at e
    have tot := congrArg List.length e
    simp only [List.length_append] at tot
    have go : ∀ (M1 : jM) (D : List Int), PM M0 M1 D → D.length + (prV 0 (fV (F f) p)).length ≤ 400 → D ++ prV 0 (fV (F f) p) ++ prL (p + 1) ((F f).drop (p + 1)) = C → lp_X7_writesField_25 252 r f p (fun (M9 : jM) => (jL (jW ((p : Int) + 1)) (fun x10 => (lp_X7_writesField_2 N 252 r f kx n x10 M9)))) N 0 M1 := by
      intro M1 D hD hDl eD
      refine mprF_lp1 (C := D ++ prV 0 (fV (F f) p)) hr hF hf (by omega) (by omega) (by simp; omega) (fun M2 h2 => ?_) (fV (F f) p).length N 0 M1 D (by omega) (by omega) hD (by simp)
      simp (disch := omega) only [jL, jW_id]
      exact ih n (p + 1) M2 _ (by omega) (by omega) h2 eD
    simp only [jL] at go ⊢
    by_cases z : p = 0
    · subst z
      rw [if_pos (by omega)]
      rw [if_neg (by omega)] at e tot
      refine go M B hB (by simp at tot ⊢; omega) (by simpa using e)
    · rw [if_neg (by omega)]
      rw [if_pos (by omega)] at e tot
      refine mput_k hB (by simp at tot; omega) (fun M1 h1 => go M1 _ h1 (by simp at tot ⊢; omega) (by simpa using e))
theorem mprF_k {N : Nat} {M0 M : jM} {r id K f : Int} {F : rF} {B : List Int} {k : jM → Prop} (hN : 5000 ≤ N) (hr : sRec r) (hF : RM M0 253 (55 + 106 * r) id K F) (hf : sFld f) (hB : PM M0 M B) (hlen : B.length + (prL 0 (F f)).length ≤ 400) (H : ∀ M', PM M0 M' (B ++ prL 0 (F f)) → k M') : w_X7_writesField N M 252 r f k := by
  have hl := hF.len hf
  unfold w_X7_writesField
  exact mprF_lp2 (C := B ++ prL 0 (F f)) hN hr hF hf (by simp; omega) H (fL (F f)).toNat N 0 M B (by omega) (by omega) hB (by simp)
theorem RM.prl {M : jM} {o id K f : Int} {F : rF} (h : RM M 253 o id K F) (hf : sFld f) : (prL 0 (F f)).length ≤ 99 := (h.fr hf).prl
theorem RM.prr {M : jM} {o id K : Int} {F : rF} (h : RM M 253 o id K F) (f : Nat) (hf : f ≤ 4) : (prR F f).length ≤ 100 * f := by
  induction f with
  | zero => simp [prR]
  | succ f ih =>
    have h1 := ih (by omega)
    have h2 := h.prl (f := f) (by omega)
    simp only [prR, List.length_append]
    by_cases e : f = 0
    · subst e; simp at h1 h2 ⊢; omega
    · have : 0 < f := by omega
      simp [this]
      omega
theorem mprint_lp {N : Nat} {M0 : jM} {r id K : Int} {F : rF} {kx : jM → Prop} (hN : 5000 ≤ N) (hr : sRec r) (hF : RM M0 253 (55 + 106 * r) id K F) (H : ∀ M', PM M0 M' (prR F 4) → kx M') : ∀ (d n p : Nat) (M : jM), d < n → p + d = 4 → PM M0 M (prR F p) → lp_X7_print_20 N 252 r kx n p M := by
  intro d
  induction d with
  | zero =>
    intro n p M hn hp hB
    obtain ⟨n, rfl⟩ : ∃ m, n = m + 1 := ⟨n - 1, by omega⟩
    have : p = 4 := by omega
    subst this
    rw [lp_X7_print_20, if_neg (by omega)]
    exact H M hB
  | succ d ih =>
    intro n p M hn hp hB
    obtain ⟨n, rfl⟩ : ∃ m, n = m + 1 := ⟨n - 1, by omega⟩
    have l1 := hF.prr p (by omega)
    have l2 := hF.prl (f := p) (by omega)
    rw [lp_X7_print_20, if_pos (by omega)]
    simp (disch := omega) only [jL, jW_id]
    by_cases z : p = 0
    · subst z
      rw [if_pos (by omega)]
      refine mprF_k hN hr hF (by omega) hB (by omega) (fun M1 h1 => ih n 1 M1 (by omega) (by omega) ?_)
      simpa [prR] using h1
    · rw [if_neg (by omega)]
      have zz : 0 < p := by omega
      refine mput_k hB (by omega) (fun M1 h1 => mprF_k hN hr hF (by omega) h1 (by simp; omega) (fun M2 h2 => ih n (p + 1) M2 (by omega) (by omega) ?_))
      simpa [prR, zz] using h2
theorem MR.setPr {M M' : jM} {a : aA} {P : List Int} (h : MR M a) (e : PM M M' P) (h2 : P.length ≤ 400) : MR M' (aNow a, aH a, aT a, P) := by
  obtain ⟨a1, a2, a3, a4, a5, a6, a7, a8, a9, a10⟩ := h
  exact ⟨a1.same (e.1 253 (by omega) (by omega)), by rw [e.2.1 3 (by omega)]; exact a2, a3, fun i s hs => (a4 i s hs).move (fun j _ _ => by rw [e.1 255 (by omega) (by omega)]), by rw [e.2.1 5 (by omega)]; exact a5, a6, fun i x hx => by rw [e.1 256 (by omega) (by omega)]; exact a7 i x hx, e.2.2.1, h2, e.2.2.2⟩
theorem ms_print {N : Nat} {M : jM} {a : aA} {id : Int} {k : Int → jM → Prop} (hN : 5000 ≤ N) (hM : MR M a) (H : ∀ M', frM M M' → MR M' (a_print a id).2 → k (a_print a id).1 M') : w_X7_print N M 252 id k := by
  unfold w_X7_print
  obtain ⟨O, hO⟩ := MS_iff.mp hM.now
  unfold a_print at H
  refine placeOf_k (by omega) hO (fun i hi => ?_) (fun hn => ?_)
  · have hr := hO.rec hi
    rw [if_neg (by omega)]
    rw [if_neg (not_not_intro hr.2.2)] at H
    simp only [jL]
    have hl := hr.2.1.prr 4 (by omega)
    refine mprint_lp hN hr.1 hr.2.1 (fun M1 h1 => ?_) 4 N 0 _ (by omega) (by omega) ⟨fun c c1 c2 => jU_row c1, fun j hj => jU_in hj, by simp [jU, prR], fun j x hj => by simp [prR] at hj⟩
    rw [h1.2.2.1]
    exact H M1 (fun c hc => h1.1 c (by omega) (by omega)) (hM.setPr h1 (by omega))
  · rw [if_pos hn] at H
    rw [if_pos (by omega)]
    exact H M (fun _ _ => rfl) hM
