/-! delete of the reference; its reads -/
def mxM (M : jM) (q p : Int) : jM := fun c i => if c = 253 ∧ q ≤ i ∧ i < p then (if i + 106 < 1115 then M 253 (i + 106) else 0) else M c i
theorem goDelete_lp {M : jM} {q : Int} {kx : jM → Prop} (hq : 0 ≤ q) (H : kx (mxM M q 1115)) : ∀ (d n : Nat) (p : Int), d < n → p + d = 1115 → q ≤ p → lp_X7_goDelete_60 252 kx n p (mxM M q p) := by
  intro d
  induction d with
  | zero =>
    intro n p hn hp hqp
    obtain ⟨n, rfl⟩ : ∃ m, n = m + 1 := ⟨n - 1, by omega⟩
    have : p = 1115 := by omega
    subst this
    rw [lp_X7_goDelete_60, if_neg (by omega)]
    exact H
  | succ d ih =>
    intro n p hn hp hqp
    obtain ⟨n, rfl⟩ : ∃ m, n = m + 1 := ⟨n - 1, by omega⟩
    have hnext := ih n (p + 1) (by omega) (by omega) (by omega)
    rw [lp_X7_goDelete_60, if_pos (by omega), jW_id (a := p + 106) (by omega)]
    simp only [Int.reduceAdd]
    by_cases z : p + 106 < 1115
    · rw [if_pos z]
      have e : jU (mxM M q p) 253 p (mxM M q p 253 (p + 106)) = mxM M q (p + 1) := by
        funext c i
        simp only [jU, mxM]
        grind (splits := 20)
      rw [e]
      simp (disch := omega) only [jL, jW_id]
      exact ⟨by omega, by omega, hnext⟩
    · rw [if_neg z]
      have e : jU (mxM M q p) 253 p 0 = mxM M q (p + 1) := by
        funext c i
        simp only [jU, mxM]
        grind (splits := 20)
      rw [e]
      simp (disch := omega) only [jL, jW_id]
      exact ⟨by omega, hnext⟩
theorem erase_nodup {I : List Int} {id : Int} : ∀ {i : Nat}, I.Nodup → I[i]? = some id → I.erase id = I.eraseIdx i := by
  induction I with
  | nil => intro i h hi; simp at hi
  | cons x I ih =>
    intro i h hi
    obtain ⟨h1, h2⟩ := List.pairwise_cons.mp h
    cases i with
    | zero =>
      have : x = id := by simpa using hi
      subst this
      rw [List.erase_cons_head]
      rfl
    | succ i =>
      have hi : I[i]? = some id := by simpa using hi
      have hne : x ≠ id := h1 id (List.mem_of_getElem? hi)
      rw [List.erase_cons_tail (by simpa using hne), ih h2 hi]
      rfl
theorem goDelete_MO {M : jM} {s : aS} {O : List Int} {i : Nat} {id : Int} (h : MO M 253 0 s O) (hi : O[i]? = some id) : MO (mxM (jU M 253 0 (((sI s).length : Int) - 1)) (55 + 106 * (i : Int)) 1115) 253 0 (sDel s id) (O.eraseIdx i) := by
  have hl := h.len
  have hn := h.nodup
  have hil : i < O.length := (List.getElem?_eq_some_iff.mp hi).1
  have hmem := (h.rec hi).2.2
  obtain ⟨h1, h2, h3, h4, h5, h6, h7⟩ := h
  have low : ∀ j : Int, j ≠ 0 → j < 55 + 106 * (i : Int) → mxM (jU M 253 0 (((sI s).length : Int) - 1)) (55 + 106 * (i : Int)) 1115 253 j = M 253 j := fun j a b => by
    unfold mxM
    rw [if_neg (by omega), jU_in (by omega)]
  have hle : ((sI s).erase id).length = (sI s).length - 1 := List.length_erase_of_mem hmem
  have hsub : ((sI s).erase id).Sublist (sI s) := List.erase_sublist
  refine ⟨⟨by show ((sI s).erase id).length ≤ 10; omega, h1.2.1.sublist hsub, fun x hx => h1.2.2.1 x (hsub.subset hx), h1.2.2.2.1, h1.2.2.2.2⟩, ?_, ?_, fun j x hj => ?_, fun f hf => by rw [low _ (by omega) (by omega)]; exact h5 f hf, fun q hq => by rw [low _ (by omega) (by omega), low _ (by omega) (by omega), low _ (by omega) (by omega)]; exact h6 q hq, fun l w hl w0 w1 => by rw [low _ (by omega) (by omega)]; exact h7 l w hl w0 w1⟩
  · show mxM _ _ 1115 253 0 = (((sI s).erase id).length : Nat)
    unfold mxM
    rw [if_neg (by omega)]
    simp [jU]
    omega
  · show (O.eraseIdx i).Perm ((sI s).erase id)
    rw [← erase_nodup hn hi]
    exact h3.erase id
  · show RM _ 253 _ x (sK s x) (sF s x)
    rcases del_at hj with ⟨a, b⟩ | ⟨a, b⟩
    · exact (h4 j x b).move (fun t t0 t1 => low _ (by omega) (by omega))
    · have hjl : j + 1 < O.length := (List.getElem?_eq_some_iff.mp b).1
      refine (h4 (j + 1) x b).move (fun t t0 t1 => ?_)
      unfold mxM
      rw [if_pos (by omega), if_pos (by omega), jU_in (by omega)]
      congr 1
      omega
theorem ms_delete {N : Nat} {M : jM} {a : aA} {u id : Int} {k : Int → jM → Prop} (hN : 5000 ≤ N) (hM : MR M a) (H : ∀ M', frM M M' → MR M' (a_delete a u id).2 → k (a_delete a u id).1 M') : w_X7_delete N M 252 u id k := by
  unfold w_X7_delete
  refine msBegin_k hN hM (fun M1 h1 hB f1 => ?_)
  have hS := h1.now
  obtain ⟨O, hO⟩ := MS_iff.mp hS
  have hl := hO.len
  unfold a_delete at H
  have fx : frM M M1 := fun c hc => f1 c (by omega)
  unfold w_X7_goDelete
  refine placeOf_k (by omega) hO (fun i hi => ?_) (fun hn => ?_)
  · have hr := hO.rec hi
    have hil : i < O.length := (List.getElem?_eq_some_iff.mp hi).1
    by_cases hu : sUsr u
    · refine errOk_k hN hS hu hr.2.2 ?_
      rw [if_neg (by omega), isBarred_eq hr.1 hr.2.1 hu]
      rw [if_neg (fun z => z.elim (fun z => z hu) (fun z => z hr.2.2))] at H
      by_cases h2 : sOpen (aNow a) u id
      · rw [if_neg (not_not_intro h2)] at H
        rw [if_pos h2, if_pos (by omega)]
        simp only [Int.reduceAdd, jL]
        rw [hO.2.1, jW_id (a := (((sI (aNow a)).length : Nat) : Int) - 1) (by omega), jW_id (a := 106 * (i : Int)) (by omega), jW_id (by omega)]
        refine ⟨by omega, by omega, ?_⟩
        have e0 : mxM (jU M1 253 0 ((((sI (aNow a)).length : Nat) : Int) - 1)) (55 + 106 * (i : Int)) (55 + 106 * (i : Int)) = jU M1 253 0 ((((sI (aNow a)).length : Nat) : Int) - 1) := by
          funext c j
          unfold mxM
          rw [if_neg (by omega)]
        have := goDelete_lp (M := jU M1 253 0 ((((sI (aNow a)).length : Nat) : Int) - 1)) (q := 55 + 106 * (i : Int)) (kx := (fun (M10 : jM) => (jB 0 1115 ∧ (w_X7_keeps N M10 252 (M10 253 0) (fun x4 M5 => (k x4 M5)))))) (by omega) ?_ (1115 - (55 + 106 * (i : Int))).toNat N (55 + 106 * (i : Int)) (by omega) (by omega) (by omega)
        · rw [e0] at this
          exact this
        · refine ⟨by omega, ?_⟩
          have hO2 := goDelete_MO hO hi
          have e1 : mxM (jU M1 253 0 ((((sI (aNow a)).length : Nat) : Int) - 1)) (55 + 106 * (i : Int)) 1115 253 0 = (((sI (aNow a)).length : Nat) : Int) - 1 := by
            unfold mxM
            rw [if_neg (by omega)]
            simp [jU]
          rw [e1]
          refine msKeep_k hN h1 hB (mfr.of (fun c hc => ?_)) (MS_iff.mpr ⟨_, hO2⟩) (by omega) (fun M' f' hM' => H M' (fun c hc => by rw [f' c hc, fx c hc]) hM')
          funext j
          unfold mxM
          rw [if_neg (by omega), jU_row hc]
      · rw [if_pos h2] at H
        rw [if_neg h2, if_neg (by omega)]
        refine errOk_k hN hS hu hr.2.2 ?_
        rw [if_neg (by omega)]
        exact keepsNo_k (by omega) (H M1 fx h1)
    · rw [if_pos (Or.inl hu)] at H
      refine errBad_k hN hS (Or.inl hu) ?_
      rw [if_pos (by omega)]
      refine errBad_k hN hS (Or.inl hu) ?_
      rw [if_pos (by omega)]
      exact keepsNo_k (by omega) (H M1 fx h1)
  · rw [if_pos (Or.inr hn)] at H
    refine errBad_k hN hS (Or.inr hn) ?_
    rw [if_pos (by omega)]
    refine errBad_k hN hS (Or.inr hn) ?_
    rw [if_pos (by omega)]
    exact keepsNo_k (by omega) (H M1 fx h1)
theorem ms_records {M : jM} {a : aA} {k : Int → Prop} (hM : MR M a) (H : k (sI (aNow a)).length) : w_X7_records M 252 k := by
  unfold w_X7_records
  simp only [Int.reduceAdd]
  rw [hM.now.2.1]
  exact ⟨by omega, H⟩
theorem ms_locker {N : Nat} {M : jM} {a : aA} {id : Int} {k : Int → Prop} (hN : 5000 ≤ N) (hM : MR M a) (H : k (a_locker a id)) : w_X7_locker N M 252 id k := by
  unfold w_X7_locker
  obtain ⟨O, hO⟩ := MS_iff.mp hM.now
  unfold a_locker at H
  refine placeOf_k (by omega) hO (fun i hi => ?_) (fun hn => ?_)
  · have hr := hO.rec hi
    have hk := hr.2.1.2.2.1
    rw [if_neg (not_not_intro hr.2.2)] at H
    rw [if_neg (by omega), of_eq hr.1 (by omega), hr.2.1.2.1, of_eq hr.1 (by omega), hr.2.1.2.1]
    by_cases z : sK (aNow a) id = -1000007
    · rw [if_pos z, if_pos rfl]
      rw [z] at H
      exact H
    · rw [if_neg z, if_neg (by omega), jW_id (by omega), show sK (aNow a) id + 1 - 1 = sK (aNow a) id by omega]
      exact H
  · rw [if_pos hn] at H
    rw [if_pos (by omega)]
    exact H
theorem ms_values {N : Nat} {M : jM} {a : aA} {id f : Int} {k : Int → Prop} (hN : 5000 ≤ N) (hM : MR M a) (H : k (a_values a id f)) : w_X7_values N M 252 id f k := by
  unfold w_X7_values
  obtain ⟨O, hO⟩ := MS_iff.mp hM.now
  unfold a_values at H
  refine placeOf_k (by omega) hO (fun i hi => ?_) (fun hn => ?_)
  · have hr := hO.rec hi
    rw [if_neg (by omega), isField_eq]
    simp only [b01, ite_not]
    by_cases hf : sFld f
    · rw [if_neg (fun z => z.elim (fun z => z hr.2.2) (fun z => z hf))] at H
      rw [if_pos hf, valuesOf_eq hr.1 hr.2.1 hf]
      exact H
    · rw [if_pos (Or.inr hf)] at H
      rw [if_neg hf]
      exact H
  · rw [if_pos (Or.inl hn)] at H
    rw [if_pos (by omega)]
    exact H
theorem ms_subvalues {N : Nat} {M : jM} {a : aA} {id f v : Int} {k : Int → Prop} (hN : 5000 ≤ N) (hM : MR M a) (H : k (a_subvalues a id f v)) : w_X7_subvalues N M 252 id f v k := by
  unfold w_X7_subvalues
  obtain ⟨O, hO⟩ := MS_iff.mp hM.now
  unfold a_subvalues at H
  refine placeOf_k (by omega) hO (fun i hi => ?_) (fun hn => ?_)
  · have hr := hO.rec hi
    rw [if_neg (by omega), isField_eq]
    simp only [b01, ite_not]
    by_cases hf : sFld f
    · have l := hr.2.1.len hf
      rw [if_neg (fun z => z.elim (fun z => z hr.2.2) (fun z => z hf))] at H
      rw [if_pos hf, mHasValue_eq hr.1 hr.2.1 hf]
      simp only [b01, ite_not]
      by_cases hv : 0 ≤ v ∧ v < fL (sF (aNow a) id f)
      · have s := hr.2.1.sub hf hv.1 hv.2
        rw [if_neg (not_not_intro hv)] at H
        rw [if_pos hv, subsOf_eq hr.1 hf (by omega), s.1]
        exact H
      · rw [if_pos hv] at H
        rw [if_neg hv]
        exact H
    · rw [if_pos (Or.inr hf)] at H
      rw [if_neg hf]
      exact H
  · rw [if_pos (Or.inl hn)] at H
    rw [if_pos (by omega)]
    exact H
theorem ms_get {N : Nat} {M : jM} {a : aA} {id f v w : Int} {k : Int → Prop} (hN : 5000 ≤ N) (hM : MR M a) (H : k (a_get a id f v w)) : w_X7_get N M 252 id f v w k := by
  unfold w_X7_get
  obtain ⟨O, hO⟩ := MS_iff.mp hM.now
  unfold a_get at H
  refine placeOf_k (by omega) hO (fun i hi => ?_) (fun hn => ?_)
  · have hr := hO.rec hi
    rw [if_neg (by omega), isField_eq]
    simp only [b01, ite_not]
    by_cases hf : sFld f
    · have l := hr.2.1.len hf
      rw [if_neg (fun z => z.elim (fun z => z hr.2.2) (fun z => z hf))] at H
      rw [if_pos hf, mHasSub_eq hr.1 hr.2.1 hf]
      simp only [b01, ite_not]
      by_cases hv : (0 ≤ v ∧ v < fL (sF (aNow a) id f)) ∧ 0 ≤ w ∧ w < fS (sF (aNow a) id f) v
      · have s := hr.2.1.sub hf hv.1.1 hv.1.2
        have nn := hr.2.1.num hf hv.1.1 hv.1.2 hv.2.1 hv.2.2
        rw [if_neg (not_not_intro hv)] at H
        rw [if_pos hv, mnum_eq hr.1 hf (by omega) (by omega), nn.1]
        exact H
      · rw [if_pos hv] at H
        rw [if_neg hv]
        exact H
    · rw [if_pos (Or.inr hf)] at H
      rw [if_neg hf]
      exact H
  · rw [if_pos (Or.inl hn)] at H
    rw [if_pos (by omega)]
    exact H
theorem mlines_lp {M : jM} {s : aS} {O : List Int} {i : Nat} {id : Int} {kx : Int → Prop} (h : MO M 253 0 s O) (hi : O[i]? = some id) (H : kx (lmax s id 4)) : ∀ (d n q : Nat), d < n → q + d = 4 → 0 ≤ lmax s id q ∧ lmax s id q ≤ 5 → lp_X7_lines_18 252 i M kx n (lmax s id q) q := by
  have hr := h.rec hi
  intro d
  induction d with
  | zero =>
    intro n q hn hq hb
    obtain ⟨n, rfl⟩ : ∃ m, n = m + 1 := ⟨n - 1, by omega⟩
    have : q = 4 := by omega
    subst this
    rw [lp_X7_lines_18, if_neg (by omega)]
    exact H
  | succ d ih =>
    intro n q hn hq hb
    obtain ⟨n, rfl⟩ : ∃ m, n = m + 1 := ⟨n - 1, by omega⟩
    have hf : sFld (q : Int) := by omega
    have ha := h.ass hf
    have hl := hr.2.1.len hf
    have en : lmax s id (q + 1) = max (lmax s id q) (lineL s id q) := rfl
    rw [lp_X7_lines_18, if_pos (by omega), jW_id (a := 1 + (q : Int)) (by omega)]
    simp only [Int.reduceAdd, ha.1]
    rw [valuesOf_eq hr.1 hr.2.1 hf, valuesOf_eq hr.1 hr.2.1 hf]
    simp (disch := omega) only [jL, jW_id]
    refine ⟨by omega, ?_⟩
    unfold lineL at en
    have hnext := ih n (q + 1) (by omega) (by omega) (by rw [en]; split <;> omega)
    by_cases z : sA s q = 1
    · rw [if_pos z] at en ⊢
      by_cases y : fL (sF s id q) ≤ lmax s id q
      · rw [if_pos y]
        rw [en, show max (lmax s id q) (fL (sF s id q)) = lmax s id q by omega] at hnext
        exact hnext
      · rw [if_neg y]
        rw [en, show max (lmax s id q) (fL (sF s id q)) = fL (sF s id q) by omega] at hnext
        exact hnext
    · rw [if_neg z] at en ⊢
      rw [en, show max (lmax s id q) 0 = lmax s id q by omega] at hnext
      exact hnext
