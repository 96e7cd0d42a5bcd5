/-! READING A TEXT: each character, the whole text; fault, load of the class -/
theorem begin_k {N : Nat} {M0 M : jM} {st f num ng : Int} {F : rF} {k : jM → Prop} (hN : 200 ≤ N) (h : RI M0 M st f num ng F) (hst : st = 0 ∨ st = 1) (H : ∀ M', RJ M0 M' f 0 0 (rBeg st f F) → k M') : w_X5_beginNumber N M 241 k := by
  obtain ⟨h1, h2, h3, h4, h5, h6, h7, h8, h9, h10⟩ := h
  unfold w_X5_beginNumber
  rw [h2, h3]
  simp only [jL, show (241 : Int) + 1 = 242 from rfl]
  by_cases z : st = 0
  · rw [if_pos z]
    have hF : F f = [] := h7 z
    have h0 : fL (F f) = 0 := by rw [hF]; rfl
    have hl := h6.len h5
    have hG := insC_RF (x := 0) (v := 0) h6 h5 (by omega) (by omega) (by omega) (by decide)
    refine addValue_eq (by omega) h5 (by omega) hl.1 (by omega) (by omega) ?_
    have eB : rBeg st f F = uI F f (fInsV (F f) 0 0) := by unfold rBeg; rw [if_pos z]
    refine H _ ⟨fun c hc => by rw [jU_row (by omega), jU_row (by omega), insC_row (by omega) (by omega) (by omega)]; exact h1 c hc, by simp [jU]; rw [insC_row (by omega) (by omega) (by omega)]; exact h3, h5, ?_, ?_, fun g hg => ?_, by simp [jU], by simp [jU], Or.inl ⟨rfl, by omega⟩⟩
    · rw [eB]
      exact hG.congr (by rw [jU_row (by omega), jU_row (by omega)]) (by rw [jU_row (by omega), jU_row (by omega)]) (by rw [jU_row (by omega), jU_row (by omega)])
    · rw [eB, uI_self, hF]
      simp [fInsV]
    · rw [eB, uI_ne (by omega)]
      exact h9 g hg
  · rw [if_neg z]
    have eB : rBeg st f F = F := by unfold rBeg; rw [if_neg z]
    rw [eB] at H
    exact H _ ⟨fun c hc => by rw [jU_row (by omega), jU_row (by omega)]; exact h1 c hc, by simp [jU]; exact h3, h5, h6.congr (by rw [jU_row (by omega), jU_row (by omega)]) (by rw [jU_row (by omega), jU_row (by omega)]) (by rw [jU_row (by omega), jU_row (by omega)]), h8 z, h9, by simp [jU], by simp [jU], Or.inl ⟨rfl, by omega⟩⟩
theorem takesDigit_k {N : Nat} {M0 M : jM} {st f num ng c : Int} {F : rF} {k : Int → jM → Prop} (hN : 200 ≤ N) (h : RI M0 M st f num ng F) (hc : 48 ≤ c ∧ c ≤ 57) (H : ∀ M' st' f' num' ng' F', rdStep st f num ng F c = some (st', f', num', ng', F') → RI M0 M' st' f' num' ng' F' → k 1 M') (H0 : rdStep st f num ng F c = none → k 0 M) : w_X5_takesDigit N M 241 (c - 48) k := by
  have h' := h
  obtain ⟨h1, h2, h3, h4, h5, h6, h7, h8, h9, h10, h11⟩ := h'
  unfold rdStep at H H0
  rw [if_pos hc] at H H0
  unfold w_X5_takesDigit
  have eJ : ∀ (f : Int → Prop) (k : (Int → Prop) → Prop), jL f k = k f := fun _ _ => rfl
  conv => rw [jL]
  rw [h2]
  by_cases z2 : st = 2
  · rw [if_pos z2] at H H0 ⊢
    have q := h10 (Or.inl z2)
    have q2 := h11 z2
    by_cases zd : c = 48
    · rw [if_pos zd] at H H0
      rw [if_pos (by omega)]
      exact H0 rfl
    · rw [if_neg zd] at H H0
      rw [if_neg (by omega)]
      exact RJ.digit ⟨h1, h3, h5, h6, h8 (by omega), h9, q.1, q.2.1, q.2.2.2⟩ (by omega) (by omega) (fun M' hM' => H M' _ _ _ _ _ rfl hM')
  · rw [if_neg z2] at H H0 ⊢
    by_cases z3 : st = 3
    · rw [if_pos z3] at H H0 ⊢
      have q := h10 (Or.inr z3)
      rw [q.1]
      have ea : jAbs num = (num.natAbs : Int) := by
        unfold jAbs
        split
        · omega
        · rw [jW_id (by omega)]; omega
      rw [ea]
      by_cases zn : num = 0 ∨ 100 ≤ num.natAbs
      · rw [if_pos zn] at H H0
        by_cases zz : num = 0
        · rw [if_pos zz]; exact H0 rfl
        · rw [if_neg zz, if_neg (by omega)]; exact H0 rfl
      · rw [if_neg zn] at H H0
        rw [if_neg (fun z => zn (Or.inl z)), if_pos (by omega)]
        exact RJ.digit ⟨h1, h3, h5, h6, h8 (by omega), h9, q.1, q.2.1, q.2.2.2⟩ (by omega) (by omega) (fun M' hM' => H M' _ _ _ _ _ rfl hM')
    · rw [if_neg z3] at H H0 ⊢
      exact begin_k hN h (by omega) (fun M' hM' => RJ.digit hM' (by omega) (by decide) (fun M2 hM2 => H M2 _ _ _ _ _ rfl hM2))
theorem over_eq {M : jM} {st : Int} (h : M 241 1 = st) (k : Int → Prop) : w_X5_isNumberOver M 241 k = k (if st = 0 ∨ st = 3 then 1 else 0) := by
  unfold w_X5_isNumberOver
  rw [h]
  by_cases z : st = 0
  · rw [if_pos z, if_pos (Or.inl z)]
  · rw [if_neg z]
    by_cases z3 : st = 3
    · rw [if_pos z3, if_pos (Or.inr z3)]
    · rw [if_neg z3, if_neg (fun q => q.elim z z3)]
theorem takes_k {N : Nat} {M0 M : jM} {st f num ng c : Int} {F : rF} {k : Int → jM → Prop} (hN : 200 ≤ N) (h : RI M0 M st f num ng F) (hcc : 32 ≤ c ∧ c ≤ 126) (H : ∀ M' st' f' num' ng' F', rdStep st f num ng F c = some (st', f', num', ng', F') → RI M0 M' st' f' num' ng' F' → k 1 M') (H0 : rdStep st f num ng F c = none → k 0 M) : w_X5_takes N M 241 c k := by
  unfold w_X5_takes
  conv => rw [jL]
  by_cases hc : 48 ≤ c ∧ c ≤ 57
  · rw [if_neg (by omega), if_pos hc.2, jW_id (by omega)]
    exact takesDigit_k hN h hc H H0
  · have e : ∀ P : Prop, P → (if c < 48 then P else if c ≤ 57 then (w_X5_takesDigit N M 241 (jW (c - 48)) (fun x11 M12 => (k x11 M12))) else P) := fun P hP => by
      by_cases z : c < 48
      · rw [if_pos z]; exact hP
      · rw [if_neg z, if_neg (by omega)]; exact hP
    refine e _ ?_
    show (if c = 45 then _ else _)
    have h' := h
    obtain ⟨h1, h2, h3, h4, h5, h6, h7, h8, h9, h10, h11⟩ := h'
    unfold rdStep at H H0
    rw [if_neg hc] at H H0
    by_cases c1 : c = 45
    · rw [if_pos c1] at H H0 ⊢
      unfold w_X5_takesMinus
      rw [h2]
      have go : (st = 0 ∨ st = 1) → w_X5_beginNumber N M 241 (fun M1 => (jL (jU M1 241 4 1) (fun M2 => (jL (jU M2 241 1 2) (fun M3 => (k 1 M3)))))) := by
        intro z
        rw [if_pos z] at H
        refine begin_k hN h z (fun M' hM' => ?_)
        obtain ⟨g1, g2, g3, g4, g5, g6, g7, g8, g9⟩ := hM'
        simp only [jL]
        exact H _ _ _ _ _ _ rfl ⟨fun c hc => by rw [jU_row (by omega), jU_row (by omega)]; exact g1 c hc, by simp [jU], by simp [jU]; exact g2, by omega, g3, g4.congr (by rw [jU_row (by omega), jU_row (by omega)]) (by rw [jU_row (by omega), jU_row (by omega)]) (by rw [jU_row (by omega), jU_row (by omega)]), fun z => by omega, fun _ => g5, g6, fun _ => ⟨by simp [jU]; exact g7, by simp [jU], by decide, by omega⟩, fun _ => ⟨rfl, rfl⟩⟩
      by_cases z : st = 0
      · rw [if_pos z]; exact go (Or.inl z)
      · rw [if_neg z]
        by_cases z1 : st = 1
        · rw [if_pos z1]; exact go (Or.inr z1)
        · rw [if_neg z1]
          rw [if_neg (by omega)] at H0
          exact H0 rfl
    · rw [if_neg c1] at H H0 ⊢
      by_cases c2 : c = 47
      · rw [if_pos c2] at H H0 ⊢
        unfold w_X5_takesSlash
        rw [h2, h3]
        by_cases z : st = 3
        · have hne := h8 (by omega)
          have hl := h6.last h5 hne
          rw [if_pos z, lastSub_eq h6 h5 hne h3]
          by_cases z3 : ls (F f) < 3
          · rw [if_pos z3, lastValue_eq h6 h5 h3, lastSub_eq h6 h5 hne h3]
            rw [if_pos ⟨z, z3⟩] at H
            have hs := h6.sub h5 hl.1 hl.2.1
            have els : ls (F f) = fS (F f) (lv (F f)) - 1 := rfl
            rw [jW_id (by omega), show (241 : Int) + 1 = 242 from rfl]
            refine addSub_eq (by omega) h5 ⟨hl.1, by omega⟩ hs.1 (by omega) (by omega) (by omega) ?_
            have hG := insS_RF (x := 0) (w := ls (F f) + 1) h6 h5 hl.1 hl.2.1 (by omega) (by omega) (by omega) (by decide)
            simp only [jL]
            exact H _ _ _ _ _ _ rfl ⟨fun c hc => by rw [jU_row (by omega), insS_row (by omega) (by omega)]; exact h1 c hc, by simp [jU], by simp [jU]; rw [insS_row (by omega) (by omega)]; exact h3, by omega, h5, hG.congr (by rw [jU_row (by omega)]) (by rw [jU_row (by omega)]) (by rw [jU_row (by omega)]), fun z => by omega, fun _ => by rw [uI_self]; unfold fInsS; intro q; have := congrArg List.length q; simp at this; exact hne this, fun g hg => by rw [uI_ne (by omega)]; exact h9 g hg, fun z => by omega, fun z => by omega⟩
          · rw [if_neg z3]
            rw [if_neg (fun q => z3 q.2)] at H0
            exact H0 rfl
        · rw [if_neg z]
          rw [if_neg (fun q => z q.1)] at H0
          exact H0 rfl
      · rw [if_neg c2] at H H0 ⊢
        by_cases c3 : c = 93
        · rw [if_pos c3] at H H0 ⊢
          unfold w_X5_takesBracket
          rw [h2, h3]
          by_cases z : st = 3
          · have hne := h8 (by omega)
            have hl := h6.last h5 hne
            have hlen := h6.len h5
            rw [if_pos z, lastValue_eq h6 h5 h3]
            by_cases z3 : lv (F f) < 4
            · rw [if_pos z3, lastValue_eq h6 h5 h3]
              rw [if_pos ⟨z, z3⟩] at H
              have els : lv (F f) = fL (F f) - 1 := rfl
              rw [jW_id (by omega), show (241 : Int) + 1 = 242 from rfl]
              refine addValue_eq (by omega) h5 (by omega) hlen.1 (by omega) (by omega) ?_
              have hG := insC_RF (x := 0) (v := lv (F f) + 1) h6 h5 (by omega) (by omega) (by omega) (by decide)
              simp only [jL]
              exact H _ _ _ _ _ _ rfl ⟨fun c hc => by rw [jU_row (by omega), insC_row (by omega) (by omega) (by omega)]; exact h1 c hc, by simp [jU], by simp [jU]; rw [insC_row (by omega) (by omega) (by omega)]; exact h3, by omega, h5, hG.congr (by rw [jU_row (by omega)]) (by rw [jU_row (by omega)]) (by rw [jU_row (by omega)]), fun z => by omega, fun _ => by rw [uI_self]; unfold fInsV; intro q; have := congrArg List.length q; rw [List.length_insertIdx] at this; unfold fL at els; grind, fun g hg => by rw [uI_ne (by omega)]; exact h9 g hg, fun z => by omega, fun z => by omega⟩
            · rw [if_neg z3]
              rw [if_neg (fun q => z3 q.2)] at H0
              exact H0 rfl
          · rw [if_neg z]
            rw [if_neg (fun q => z q.1)] at H0
            exact H0 rfl
        · rw [if_neg c3] at H H0 ⊢
          by_cases c4 : c = 94
          · rw [if_pos c4] at H H0 ⊢
            unfold w_X5_takesCaret
            rw [over_eq h2, h3]
            simp only [b01, ite_not]
            have go : (st = 0 ∨ st = 3) → (if f < 3 then (jL (jU M 241 2 (jW (f + 1))) (fun M2 => (jL (jU M2 241 1 0) (fun M3 => (k 1 M3))))) else (k 0 M)) := by
              intro z
              by_cases zf : f < 3
              · rw [if_pos zf]
                rw [if_pos ⟨z, zf⟩] at H
                simp only [jL]
                rw [jW_id (by omega)]
                exact H _ _ _ _ _ _ rfl ⟨fun c hc => by rw [jU_row (by omega), jU_row (by omega)]; exact h1 c hc, by simp [jU], by simp [jU], by omega, by omega, h6.congr (by rw [jU_row (by omega), jU_row (by omega)]) (by rw [jU_row (by omega), jU_row (by omega)]) (by rw [jU_row (by omega), jU_row (by omega)]), fun _ => h9 _ (by omega), fun z => absurd rfl z, fun g hg => h9 g (by omega), fun z => by omega, fun z => by omega⟩
              · rw [if_neg zf]
                rw [if_neg (fun q => zf q.2)] at H0
                exact H0 rfl
            by_cases z : st = 0 ∨ st = 3
            · rw [if_pos z]; exact go z
            · rw [if_neg z]
              rw [if_neg (fun q => z q.1)] at H0
              exact H0 rfl
          · rw [if_neg c4] at H0 ⊢
            exact H0 rfl
theorem XR.text_at {M : jM} {a : aA} (hX : XR M a) {p : Nat} (hp : p < (aT a).length) {M1 : jM} (e1 : M1 237 = M 237) (e2 : M1 238 = M 238) (k : Int → Prop) : ∃ c : Int, (aT a)[p]? = some c ∧ 32 ≤ c ∧ c ≤ 126 ∧ (k c → w_X3_at M1 237 p k) := by
  have ht := hX.2.2.2.2.2.2.2.2
  have hi : (aT a)[p]? = some ((aT a).getD p 0) := by
    rw [List.getD_eq_getElem?_getD, List.getElem?_eq_getElem hp]
    rfl
  have q := ht.2.2.1 p _ hi
  refine ⟨_, hi, q.2.1, q.2.2, fun H => ?_⟩
  unfold w_X3_at
  have ek : jK (237 + 1) % 10000 = 90 := by decide
  simp only [isBelow_eq, b01, ite_not]
  rw [e1, ht.1, ek, if_pos (by omega)]
  simp only [Int.reduceAdd]
  rw [e2, q.1]
  exact ⟨by omega, H⟩
theorem drop_at {T : List Int} {p : Nat} {c : Int} (h : T[p]? = some c) : T.drop p = c :: T.drop (p + 1) := by
  obtain ⟨h1, h2⟩ := List.getElem?_eq_some_iff.mp h
  rw [List.drop_eq_getElem_cons h1, h2]
theorem read_lp {N : Nat} {M0 : jM} {a : aA} {k : Int → jM → Prop} {kx : jM → Prop} {R : Int × rF} (hN : 200 ≤ N) (hX : XR M0 a) (H0 : ∀ (M' : jM) (p : Nat) (F : rF), (∀ c : Int, (c < 241 ∨ 245 < c) → M' c = M0 c) → p < (aT a).length → R = ((p : Int), F) → k p M') (Hx : ∀ M' st f num ng F, RI M0 M' st f num ng F → R = (if f = 3 ∧ (st = 0 ∨ st = 3) then -1000007 else ((aT a).length : Int), F) → kx M') :
    ∀ (d n p : Nat) (M : jM) (st f num ng : Int) (F : rF), d < n → p + d = (aT a).length → RI M0 M st f num ng F → rdRun st f num ng F ((aT a).drop p) p = R → lp_X5_read_19 N 241 237 k kx n p M := by
  have ht := hX.2.2.2.2.2.2.2.2
  intro d
  induction d with
  | zero =>
    intro n p M st f num ng F hn hp hI e
    obtain ⟨n, rfl⟩ : ∃ m, n = m + 1 := ⟨n - 1, by omega⟩
    rw [lp_X5_read_19, hI.1 237 (by omega), ht.1, if_neg (by omega)]
    refine Hx M st f num ng F hI ?_
    rw [← e, List.drop_of_length_le (by omega)]
    have : (p : Int) = (aT a).length := by omega
    rw [rdRun, this]
  | succ d ih =>
    intro n p M st f num ng F hn hp hI e
    obtain ⟨n, rfl⟩ : ∃ m, n = m + 1 := ⟨n - 1, by omega⟩
    rw [lp_X5_read_19, hI.1 237 (by omega), ht.1, if_pos (by omega)]
    obtain ⟨c, hc, c1, c2, hk⟩ := hX.text_at (p := p) (M1 := M) (by omega) (hI.1 237 (by omega)) (hI.1 238 (by omega)) (fun x8 => (w_X5_takes N M 241 x8 (fun x9 M10 => (if x9 = 0 then (k (p : Int) M10) else (jL (jW ((p : Int) + 1)) (fun x11 => (lp_X5_read_19 N 241 237 k kx n x11 M10)))))))
    refine hk (takes_k hN hI ⟨c1, c2⟩ (fun M' st' f' num' ng' F' h1 h2 => ?_) (fun h1 => ?_))
    · rw [if_neg (by omega)]
      simp (disch := omega) only [jL, jW_id]
      refine ih n (p + 1) M' st' f' num' ng' F' (by omega) (by omega) h2 ?_
      rw [← e, drop_at hc, rdRun, h1]
      rfl
    · rw [if_pos rfl]
      refine H0 M p F hI.1 (by omega) ?_
      rw [← e, drop_at hc, rdRun, h1]
theorem rd_read {N : Nat} {M : jM} {a : aA} {k : Int → jM → Prop} (hN : 200 ≤ N) (hX : XR M a) (H : ∀ M', (∀ c : Int, (c < 241 ∨ 245 < c) → M' c = M c) → ((rd (aT a)).1 = -1000007 → RF M' 242 (rd (aT a)).2) → k (rd (aT a)).1 M') : w_X5_read N M 241 237 k := by
  have ht := hX.2.2.2.2.2.2.2.2
  unfold w_X5_read
  simp only [Int.reduceAdd]
  refine emptyFields_eq (by omega) ?_
  simp only [jL]
  refine read_lp (a := a) (M0 := M) (R := rd (aT a)) hN hX (fun M' p F h1 h2 h3 => ?_) (fun M' st f num ng F h1 h2 => ?_) (aT a).length N 0 _ 0 0 0 0 (fun _ => []) (by omega) (by omega) ⟨fun c hc => ?_, by simp [jU], by simp [jU], by omega, by omega, ?_, fun _ => rfl, fun z => absurd rfl z, fun _ _ => rfl, fun z => by omega, fun z => by omega⟩ rfl
  · have := H M' h1
    rw [h3] at this
    exact this (fun z => by have z : (p : Int) = -1000007 := z; omega)
  · have hH := H M' h1.1
    rw [h2] at hH
    obtain ⟨g1, g2, g3, g4, g5, g6, g7⟩ := h1
    unfold w_X5_isComplete
    rw [over_eq g2, g3, g1 237 (by omega), ht.1]
    simp only [b01, ite_not]
    by_cases z : f = 3
    · rw [if_pos z]
      by_cases z0 : st = 0 ∨ st = 3
      · rw [if_pos ⟨z, z0⟩] at hH
        rw [if_pos z0, if_neg (by omega)]
        exact hH (fun _ => g6)
      · rw [if_neg (fun q => z0 q.2)] at hH
        rw [if_neg z0, if_pos trivial]
        exact hH (fun _ => g6)
    · rw [if_neg (fun q => z q.1)] at hH
      rw [if_neg z, if_pos trivial]
      exact hH (fun _ => g6)
  · rw [jU_row (by omega), jU_row (by omega)]
    funext i
    unfold emC
    rw [if_neg (by omega)]
  · intro g g0 g1
    have e : jU (jU (emC M 242) 241 1 0) 241 2 0 (242 + 1) g = 0 := by
      rw [jU_row (by omega), jU_row (by omega)]
      unfold emC
      rw [if_pos (by omega)]
    show FR [] (jU (jU (emC M 242) 241 1 0) 241 2 0 (242 + 1) g) _ _
    rw [e]
    exact FR.nil
theorem XR.reader {M M' : jM} {a : aA} (h : XR M a) (e : ∀ c : Int, (c < 241 ∨ 245 < c) → M' c = M c) : XR M' a := by
  obtain ⟨q1, q2, q3, q4, q5, q6, q7, q8, q9, q10, q11, q12, q13, q14⟩ := h
  have pin : ∀ i : Int, 0 ≤ i → i < 4 → 48 < M 48 i ∧ M 48 i < 191 := fun i h0 h1 => by obtain ⟨q, a1, a2, a3⟩ := q4 i h0 h1; omega
  have e48 := e 48 (by omega)
  refine ⟨q1.congr (fun c h0 h1 => e c (by omega)), by rw [e 0 (by omega)]; exact q2, q3, fun i h0 h1 => by rw [e48]; exact q4 i h0 h1, fun i j a b c d => by rw [e48]; exact q5 i j a b c d, fun i h0 h1 j a b => by have := pin i h0 h1; rw [e48, e _ (by omega)]; exact q6 i h0 h1 j a b, fun i h0 h1 j k a b c d => by have := pin i h0 h1; rw [e48, e _ (by omega)]; exact q7 i h0 h1 j k a b c d, fun i s hi => ?_, by rw [e 237 (by omega)]; exact q9, q10, fun i x hi => by rw [e 238 (by omega)]; exact q11 i x hi, by rw [e 239 (by omega)]; exact q12, q13, fun i x hi => by rw [e 240 (by omega)]; exact q14 i x hi⟩
  have hl : i < (aH a).length := (List.getElem?_eq_some_iff.mp hi).1
  have := pin i (by omega) (by omega)
  rw [e48]
  exact (q8 i s hi).congr (fun c h0 h1 => e c (by omega))
theorem xs_fault {N : Nat} {M : jM} {a : aA} {k : Int → jM → Prop} (hN : 200 ≤ N) (hX : XR M a) (H : ∀ M', frX M M' → XR M' a → k (a_fault a) M') : w_X6_fault N M 0 k := by
  unfold w_X6_fault
  simp only [Int.reduceAdd]
  exact rd_read hN hX (fun M' h1 h2 => H M' (fun c hc => h1 c (by omega)) (hX.reader h1))
/-! the number of all subvalues -/
def nSubs (L : List (List Int)) : Nat := (L.map List.length).sum
def nAll (F : rF) : Int := ((nSubs (F 0) + nSubs (F 1) + nSubs (F 2) + nSubs (F 3) : Nat) : Int)
def a_load (a : aA) (u id : Int) : Int × aA :=
  if ¬ sUsr u ∨ id ∉ sI (aNow a) then (-1000001, a) else if (rd (aT a)).1 ≠ -1000007 then (-1000003, a) else if ¬ sOpen (aNow a) u id then (-1000006, a)
  else (nAll (rd (aT a)).2, aDo a (setFs (aNow a) id (rd (aT a)).2))
theorem nSubs_take {L : List (List Int)} {p : Nat} (h : p < L.length) : nSubs (L.take (p + 1)) = nSubs (L.take p) + (fV L p).length := by
  unfold nSubs
  rw [List.take_succ, List.getElem?_eq_getElem h, List.map_append, List.sum_append]
  have : fV L p = L[p] := by unfold fV; rw [Int.toNat_natCast, List.getD_eq_getElem?_getD, List.getElem?_eq_getElem h]; rfl
  rw [this]
  simp
theorem nSubs_le {L : List (List Int)} (h : ∀ V ∈ L, V.length ≤ 4) : nSubs L ≤ 4 * L.length := by
  induction L with
  | nil => simp [nSubs]
  | cons V L ih =>
    have h1 := h V (by simp)
    have h2 := ih (fun W hW => h W (by simp [hW]))
    unfold nSubs at h2 ⊢
    simp
    omega
theorem RF.nsubs {M : jM} {r f : Int} {F : rF} (h : RF M r F) (hf : sFld f) : nSubs (F f) ≤ 20 := by
  have h1 := nSubs_le (L := F f) (fun V hV => by obtain ⟨i, hi⟩ := List.getElem?_of_mem hV; have := (h f hf.1 hf.2).2.2 i V hi; exact this.2.2.1)
  have h2 := (h f hf.1 hf.2).2.1
  omega
theorem allSub_lp1 {M : jM} {r f : Int} {F : rF} {t : Int} {kx : Int → Prop} (hF : RF M r F) (hf : sFld f) (ht : 0 ≤ t ∧ t ≤ 80) (H : kx (t + nSubs (F f))) : ∀ (d n p : Nat), d < n → p + d = (F f).length → lp_X1_allSubCount_11 r f M kx n (t + nSubs ((F f).take p)) p := by
  have hl := hF.len hf
  have hs := hF.nsubs hf
  unfold fL at hl
  intro d
  induction d with
  | zero =>
    intro n p hn hp
    obtain ⟨n, rfl⟩ : ∃ m, n = m + 1 := ⟨n - 1, by omega⟩
    rw [lp_X1_allSubCount_11, hl.1, if_neg (by omega), List.take_of_length_le (by omega)]
    exact ⟨by omega, H⟩
  | succ d ih =>
    intro n p hn hp
    obtain ⟨n, rfl⟩ : ∃ m, n = m + 1 := ⟨n - 1, by omega⟩
    have hpl : p < (F f).length := by omega
    have hsb := hF.sub hf (v := (p : Int)) (by omega) (by unfold fL; omega)
    have hle : nSubs ((F f).take p) ≤ 20 := by
      have := nSubs_le (L := (F f).take p) (fun V hV => by obtain ⟨i, hi⟩ := List.getElem?_of_mem (List.mem_of_mem_take hV); have := (hF f hf.1 hf.2).2.2 i V hi; exact this.2.2.1)
      rw [List.length_take] at this
      omega
    rw [lp_X1_allSubCount_11, hl.1, if_pos (by omega)]
    refine ⟨by omega, ?_⟩
    rw [subCount_eq hF hf (by omega) (by unfold fL; omega)]
    have e := nSubs_take hpl
    have e2 : t + (nSubs ((F f).take p) : Int) + fS (F f) p = t + (nSubs ((F f).take (p + 1)) : Int) := by unfold fS; omega
    simp only [jL]
    rw [jW_id (by omega), jW_id (by omega), e2]
    exact ih n (p + 1) (by omega) (by omega)
def nFs (F : rF) : Nat → Nat
  | 0 => 0
  | p + 1 => nFs F p + nSubs (F p)
theorem allSub_lp2 {N : Nat} {M : jM} {r : Int} {F : rF} {kx : Int → Prop} (hN : 200 ≤ N) (hF : RF M r F) (H : kx (nAll F)) : ∀ (d n p : Nat), d < n → p + d = 4 → nFs F p ≤ 20 * p → lp_X1_allSubCount_4 N r M kx n (nFs F p) p := by
  intro d
  induction d with
  | zero =>
    intro n p hn hp hb
    obtain ⟨n, rfl⟩ : ∃ m, n = m + 1 := ⟨n - 1, by omega⟩
    have : p = 4 := by omega
    subst this
    rw [lp_X1_allSubCount_4, if_neg (by omega)]
    have e : (nFs F 4 : Int) = nAll F := by simp [nFs, nAll]
    rw [e]
    exact H
  | succ d ih =>
    intro n p hn hp hb
    obtain ⟨n, rfl⟩ : ∃ m, n = m + 1 := ⟨n - 1, by omega⟩
    have hf : sFld (p : Int) := ⟨by omega, by omega⟩
    have hs := hF.nsubs hf
    have hl := hF.len hf
    rw [lp_X1_allSubCount_4, if_pos (by omega)]
    have := allSub_lp1 (t := (nFs F p : Nat)) (kx := fun (x6 : Int) => (jL (jW ((p : Int) + 1)) (fun x7 => (lp_X1_allSubCount_4 N r M kx n x6 x7)))) hF hf (by omega) (by
      simp (disch := omega) only [jL, jW_id]
      exact ih n (p + 1) (by omega) (by omega) (by rw [nFs]; omega)) (F p).length N 0 (by unfold fL at hl; omega) (by omega)
    simpa [nSubs] using this
theorem allSub_k {N : Nat} {M : jM} {r : Int} {F : rF} {k : Int → Prop} (hN : 200 ≤ N) (hF : RF M r F) (H : k (nAll F)) : w_X1_allSubCount N M r k := allSub_lp2 hN hF H 4 N 0 (by omega) (by omega) (by simp [nFs])
theorem xs_load {N : Nat} {M : jM} {a : aA} {u id : Int} {k : Int → jM → Prop} (hN : 200 ≤ N) (hX : XR M a) (H : ∀ M', frX M M' → XR M' (a_load a u id).2 → k (a_load a u id).1 M') : w_X6_load N M 0 u id k := by
  unfold w_X6_load
  simp only [Int.reduceAdd, isBelow_eq, b01, ite_not]
  unfold a_load at H
  refine hX.find_k (by omega) (fun i r hi r0 r1 r2 hr => ?_) (fun hn => ?_)
  · have hm := List.mem_of_getElem? hi
    rw [if_neg (by omega : ¬ r < 0)]
    by_cases h1 : sUsr u
    · rw [if_pos h1]
      rw [if_neg (fun z => z.elim (fun z => z h1) (fun z => z hm))] at H
      refine rd_read hN hX (fun M1 e1 hF1 => ?_)
      have hX1 := hX.reader e1
      have fx : frX M M1 := fun c hc => e1 c (by omega)
      by_cases h2 : (rd (aT a)).1 = -1000007
      · rw [if_pos h2]
        rw [if_neg (not_not_intro h2)] at H
        have hr1 : RX M1 r id (sK (aNow a) id) (sF (aNow a) id) := hr.congr (e1 _ (by omega)) (e1 _ (by omega)) (e1 _ (by omega)) (e1 _ (by omega))
        rw [isOpenTo_eq hr1]
        simp only [b01, ite_not]
        by_cases h4 : sOpen (aNow a) u id
        · rw [if_pos h4]
          rw [if_neg (not_not_intro h4)] at H
          refine remember_k (by omega) hX1 (fun M2 f2 hX2 => ?_)
          have hF2 : RF M2 242 (rd (aT a)).2 := (hF1 h2).congr (f2 _ (by omega)) (f2 _ (by omega)) (f2 _ (by omega))
          rw [copyFields_eq (by omega)]
          have hF3 := cfC_RF (r := r) hF2
          refine allSub_k hN hF3 (H _ (fun c hc => by rw [cfC_row (by omega), f2 c (by omega)]; exact fx c hc) ?_)
          refine hX2.act (n' := setFs (aNow a) id (rd (aT a)).2) hi (by rw [f2 2 (by omega), e1 2 (by omega)]; exact r0) ⟨r1, r2⟩ (fun c hc => cfC_row (by omega)) ?_ rfl (fun _ _ => rfl) (fun j hj => uI_ne hj) rfl rfl rfl
          refine ⟨by rw [cfC_row (by omega), f2 r (by omega)]; exact hr1.1, by rw [cfC_row (by omega), f2 r (by omega)]; exact hr1.2.1, hr1.2.2.1, ?_⟩
          show RF _ r (uI (sF (aNow a)) id _ id)
          rw [uI_self]
          exact hF3
        · rw [if_neg h4]
          rw [if_pos h4] at H
          exact H M1 fx hX1
      · rw [if_neg h2]
        rw [if_pos h2] at H
        exact H M1 fx hX1
    · rw [if_neg h1]
      rw [if_pos (Or.inl h1)] at H
      exact H M fr0 hX
  · rw [if_pos (Or.inr hn)] at H
    rw [if_pos (by omega : (-1 : Int) < 0), ite_self]
    exact H M fr0 hX
