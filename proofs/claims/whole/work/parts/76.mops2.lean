/-! removeLine, create, delete of the reference -/
theorem MO.ass {M : jM} {s : aS} {O : List Int} {f : Int} (h : MO M 253 0 s O) (hf : sFld f) : M 253 (1 + f) = sA s f ∧ (sA s f = 0 ∨ sA s f = 1) := by
  have q := h.2.2.2.2.1 f hf
  rw [show (0 : Int) + 1 + f = 1 + f by omega] at q
  exact ⟨q, h.1.2.2.2.1 f hf⟩
theorem inLine_lp {M : jM} {s : aS} {O : List Int} {i : Nat} {id p : Int} {kx : Int → Prop} (h : MO M 253 0 s O) (hi : O[i]? = some id) (H : kx (nLine s id p)) : ∀ (d n q : Nat), d < n → q + d = 4 → 0 ≤ nl s id p q ∧ nl s id p q ≤ q → lp_X7_inLine_5 252 i p M kx n (nl s id p q) q := by
  have hr := h.rec hi
  intro d
  induction d with
  | zero =>
    intro n q hn hq hb
    obtain ⟨n, rfl⟩ : ∃ m, n = m + 1 := ⟨n - 1, by omega⟩
    have : q = 4 := by omega
    subst this
    rw [lp_X7_inLine_5, if_neg (by omega), nl_4]
    exact H
  | succ d ih =>
    intro n q hn hq hb
    obtain ⟨n, rfl⟩ : ∃ m, n = m + 1 := ⟨n - 1, by omega⟩
    have hf : sFld (q : Int) := by omega
    have ha := h.ass hf
    have en : nl s id p (q + 1) = nl s id p q + (if sHas s id p q then 1 else 0) := rfl
    rw [lp_X7_inLine_5, if_pos (by omega), jW_id (a := 1 + (q : Int)) (by omega)]
    simp only [Int.reduceAdd, ha.1]
    rw [mHasValue_eq hr.1 hr.2.1 hf]
    simp (disch := omega) only [jL, jW_id, b01, ite_not]
    refine ⟨by omega, ?_⟩
    have hnext := ih n (q + 1) (by omega) (by omega)
    by_cases hs : sHas s id p q
    · rw [if_pos hs] at en
      rw [if_pos hs.1, if_pos hs.2, ← en]
      exact hnext (by omega)
    · rw [if_neg hs, Int.add_zero] at en
      rw [en] at hnext
      by_cases h0 : sA s q = 1
      · rw [if_pos h0, if_neg (fun z => hs ⟨h0, z⟩), Int.add_zero]
        exact hnext (by omega)
      · rw [if_neg h0, Int.add_zero]
        exact hnext (by omega)
theorem inLine_k {N : Nat} {M : jM} {s : aS} {O : List Int} {i : Nat} {id p : Int} {k : Int → Prop} (hN : 5000 ≤ N) (h : MO M 253 0 s O) (hi : O[i]? = some id) (H : k (nLine s id p)) : w_X7_inLine N M 252 i p k := inLine_lp h hi H 4 N 0 (by omega) (by omega) (by simp [nl])
theorem mRemoveLine_lp {N : Nat} {M1 : jM} {s : aS} {O : List Int} {i : Nat} {id p : Int} {kx : jM → Prop} (hN : 5000 ≤ N) (h : MO M1 253 0 s O) (hi : O[i]? = some id) (H : ∀ M2, (∀ c : Int, c ≠ 253 → M2 c = M1 c) → (∀ j : Int, (j < 55 + 106 * (i : Int) ∨ 55 + 106 * (i : Int) + 106 ≤ j) → M2 253 j = M1 253 j) → RM M2 253 (55 + 106 * (i : Int)) id (sK s id) (dF s id p 4) → kx M2) :
    ∀ (d n q : Nat) (M2 : jM), d < n → q + d = 4 → (∀ c : Int, c ≠ 253 → M2 c = M1 c) → (∀ j : Int, (j < 55 + 106 * (i : Int) ∨ 55 + 106 * (i : Int) + 106 ≤ j) → M2 253 j = M1 253 j) → RM M2 253 (55 + 106 * (i : Int)) id (sK s id) (dF s id p q) → lp_X7_removeLine_58 N 252 p i kx n q M2 := by
  have hr0 := (h.rec hi).1
  intro d
  induction d with
  | zero =>
    intro n q M2 hn hq e e2 hF
    obtain ⟨n, rfl⟩ : ∃ m, n = m + 1 := ⟨n - 1, by omega⟩
    have : q = 4 := by omega
    subst this
    rw [lp_X7_removeLine_58, if_neg (by omega)]
    exact H M2 e e2 hF
  | succ d ih =>
    intro n q M2 hn hq e e2 hF
    obtain ⟨n, rfl⟩ : ∃ m, n = m + 1 := ⟨n - 1, by omega⟩
    have hf : sFld (q : Int) := by omega
    have ha := h.ass hf
    have e0 : dF s id p q q = sF s id q := by unfold dF; rw [if_neg (by omega)]
    rw [lp_X7_removeLine_58, if_pos (by omega), jW_id (a := 1 + (q : Int)) (by omega)]
    have ha2 : M2 253 (1 + (q : Int)) = sA s q := by rw [e2 (1 + (q : Int)) (by omega)]; exact ha.1
    simp only [Int.reduceAdd, ha2]
    rw [mHasValue_eq hr0 hF hf, e0]
    simp (disch := omega) only [jL, jW_id, b01, ite_not]
    refine ⟨by omega, ?_⟩
    by_cases hs : sHas s id p q
    · rw [if_pos hs.1, if_pos hs.2]
      have hl := hF.len hf
      rw [e0] at hl
      refine dropsValue_eq hN hr0 hF hf hs.2.1 (by rw [e0]; exact hs.2.2) ?_
      have hF2 := mdel_RM hF hf hs.2.1 (by rw [e0]; exact hs.2.2)
      rw [dF_next (by omega) hs] at hF2
      exact ih n (q + 1) _ (by omega) (by omega) (fun c hc => by rw [mdel_row hc]; exact e c hc) (fun j hj => by rw [mdel_out hf (by rw [e0] at *; omega) (by rw [e0]; omega) hj]; exact e2 j hj) hF2
    · rw [dF_skip hs] at hF
      have := ih n (q + 1) M2 (by omega) (by omega) e e2 hF
      by_cases h0 : sA s q = 1
      · rw [if_pos h0, if_neg (fun z => hs ⟨h0, z⟩)]
        exact this
      · rw [if_neg h0]
        exact this
theorem nLine_nn (s : aS) (id p : Int) : 0 ≤ nLine s id p := by
  unfold nLine
  repeat (first | omega | split)
theorem ms_removeLine {N : Nat} {M : jM} {a : aA} {u id p : Int} {k : Int → jM → Prop} (hN : 5000 ≤ N) (hM : MR M a) (H : ∀ M', frM M M' → MR M' (a_removeLine a u id p).2 → k (a_removeLine a u id p).1 M') : w_X7_removeLine N M 252 u id p k := by
  unfold w_X7_removeLine
  have hS := hM.now
  obtain ⟨O, hO⟩ := MS_iff.mp hS
  unfold a_removeLine at H
  have hfail : ∀ e : Int, e = -1000001 → (¬ sUsr u ∨ id ∉ sI (aNow a)) → k e M := fun e he z => by
    rw [if_pos z] at H
    rw [he]
    exact H M (fun _ _ => rfl) hM
  refine placeOf_k (by omega) hO (fun i hi => ?_) (fun hn => ?_)
  · have hr := hO.rec hi
    by_cases hu : sUsr u
    · refine errOk_k hN hS hu hr.2.2 ?_
      rw [if_neg (by omega)]
      rw [if_neg (fun z => z.elim (fun z => z hu) (fun z => z hr.2.2))] at H
      refine inLine_k hN hO hi ?_
      by_cases h3 : nLine (aNow a) id p = 0
      · rw [if_pos h3] at H ⊢
        exact H M (fun _ _ => rfl) hM
      · rw [if_neg h3] at H ⊢
        rw [isBarred_eq hr.1 hr.2.1 hu]
        by_cases h2 : sOpen (aNow a) u id
        · rw [if_neg (not_not_intro h2)] at H
          rw [if_pos h2, if_pos (by omega)]
          refine msBegin_k hN hM (fun M1 h1 hB f1 => ?_)
          have fx : frM M M1 := fun c hc => f1 c (by omega)
          have hO1 := hO.same (M' := M1) (f1 253 (by omega))
          have hr1 := hO1.rec hi
          refine inLine_k hN hO1 hi ?_
          have d0 : dF (aNow a) id p ((0 : Nat) : Int) = sF (aNow a) id := by
            funext f
            unfold dF
            rw [if_neg (by omega)]
          refine mRemoveLine_lp (M1 := M1) (s := aNow a) (id := id) (p := p) hN hO1 hi (fun M2 e e2 hF => ?_) 4 N 0 M1 (by omega) (by omega) (fun _ _ => rfl) (fun _ _ => rfl) (by rw [d0]; exact hr1.2.1)
          have hn := setFs_MO hO1 hi e2 hF
          have := nLine_nn (aNow a) id p
          exact msKeep_k hN h1 hB (mfr.of e) (MS_iff.mpr ⟨O, hn⟩) (by omega) (fun M' f' hM' => H M' (fun c hc => by rw [f' c hc, fx c hc]) hM')
        · rw [if_pos h2] at H
          rw [if_neg h2, if_neg (by omega)]
          exact H M (fun _ _ => rfl) hM
    · refine errBad_k hN hS (Or.inl hu) ?_
      rw [if_pos (by omega)]
      exact hfail _ rfl (Or.inl hu)
  · refine errBad_k hN hS (Or.inr hn) ?_
    rw [if_pos (by omega)]
    exact hfail _ rfl (Or.inr hn)
/-! create, delete -/
def mzM (M : jM) (m p : Int) : jM := fun c i => if c = 253 ∧ 55 + 106 * m ≤ i ∧ i < 55 + 106 * m + p then 0 else M c i
theorem goCreate_lp {M : jM} {m : Int} {kx : jM → Prop} (hm : sRec m) (h0 : M 253 0 = m) (H : kx (mzM M m 106)) : ∀ (d n p : Nat), d < n → p + d = 106 → lp_X7_goCreate_40 252 kx n p (mzM M m p) := by
  intro d
  induction d with
  | zero =>
    intro n p hn hp
    obtain ⟨n, rfl⟩ : ∃ m, n = m + 1 := ⟨n - 1, by omega⟩
    have : p = 106 := by omega
    subst this
    rw [lp_X7_goCreate_40, if_neg (by omega)]
    exact H
  | succ d ih =>
    intro n p hn hp
    obtain ⟨n, rfl⟩ : ∃ m, n = m + 1 := ⟨n - 1, by omega⟩
    have e0 : mzM M m p 253 0 = m := by
      unfold mzM
      rw [if_neg (by omega)]
      exact h0
    rw [lp_X7_goCreate_40, if_pos (by omega)]
    simp only [Int.reduceAdd]
    rw [e0, lays_eq hm (by omega)]
    have e : jU (mzM M m p) 253 (55 + 106 * m + p) 0 = mzM M m ((p + 1 : Nat) : Int) := by
      funext c i
      simp only [jU, mzM]
      grind (splits := 20)
    rw [e]
    simp (disch := omega) only [jL, jW_id]
    exact ⟨by omega, ih n (p + 1) (by omega) (by omega)⟩
def mcrM (M : jM) (m id : Int) : jM := fun c i => if c = 253 ∧ i = 0 then m + 1 else if c = 253 ∧ i = 55 + 106 * m then id else mzM M m 106 c i
theorem sAdd_ok {s : aS} {id : Int} (h : sOK s) (hid : 0 ≤ id ∧ id < 100) (hni : id ∉ sI s) (hlen : (sI s).length < 10) : sOK (sAdd s id) ∧ (sI (sAdd s id)).length = (sI s).length + 1 ∧ ∀ x, x ∈ sI (sAdd s id) ↔ x = id ∨ x ∈ sI s := by
  have hp := List.perm_insertIdx id (sI s) (i := (sI s).findIdx (fun j => decide (id < j))) List.findIdx_le_length
  have hl : (sI (sAdd s id)).length = (sI s).length + 1 := by
    show ((sI s).insertIdx _ id).length = _
    rw [hp.length_eq]
    rfl
  have hmem : ∀ x, x ∈ sI (sAdd s id) ↔ x = id ∨ x ∈ sI s := fun x => by
    show x ∈ (sI s).insertIdx _ id ↔ _
    rw [hp.mem_iff, List.mem_cons]
  refine ⟨⟨by omega, ?_, fun x hx => ?_, h.2.2.2.1, h.2.2.2.2⟩, hl, hmem⟩
  · refine ins_sorted h.2.1 List.findIdx_le_length (fun j x hj hx => ?_) (fun j x hj hx => ?_)
    · obtain ⟨g1, g2⟩ := List.getElem?_eq_some_iff.mp hx
      have hfl : (sI s).findIdx (fun j => decide (id < j)) < (sI s).length := by omega
      have hq := List.findIdx_getElem (w := hfl)
      have hq : id < (sI s)[(sI s).findIdx (fun j => decide (id < j))]'hfl := by simpa using hq
      have hz := List.getElem?_eq_getElem hfl
      rcases Nat.lt_or_ge ((sI s).findIdx (fun j => decide (id < j))) j with y | y
      · have := List.pairwise_iff_getElem.mp h.2.1 _ j hfl g1 y
        omega
      · have e : (sI s).findIdx (fun j => decide (id < j)) = j := by omega
        generalize (sI s)[(sI s).findIdx (fun j => decide (id < j))]'hfl = z at hq hz
        rw [e, hx] at hz
        have := Option.some.inj hz
        omega
    · have hne : x ≠ id := fun e => hni (e ▸ List.mem_of_getElem? hx)
      obtain ⟨g1, g2⟩ := List.getElem?_eq_some_iff.mp hx
      have := List.not_of_lt_findIdx hj
      have : ¬ id < (sI s)[j] := by simpa using this
      omega
  · rcases (hmem x).mp hx with z | z
    · omega
    · exact h.2.2.1 x z
theorem mcrM_MO {M : jM} {s : aS} {O : List Int} {id : Int} (h : MO M 253 0 s O) (hid : 0 ≤ id ∧ id < 100) (hni : id ∉ sI s) (hlen : (sI s).length < 10) : MO (mcrM M (sI s).length id) 253 0 (sAdd s id) (O ++ [id]) := by
  have hl := h.len
  have hok := sAdd_ok h.1 hid hni hlen
  obtain ⟨h1, h2, h3, h4, h5, h6, h7⟩ := h
  have hm : sRec ((sI s).length : Nat) := by omega
  have low : ∀ j : Int, j ≠ 0 → j < 55 + 106 * (((sI s).length : Nat) : Int) → mcrM M (sI s).length id 253 j = M 253 j := fun j a b => by
    unfold mcrM mzM
    rw [if_neg (by omega), if_neg (by omega), if_neg (by omega)]
  refine ⟨hok.1, by rw [hok.2.1]; simp [mcrM], ?_, fun i x hi => ?_, fun f hf => by rw [low _ (by omega) (by omega)]; exact h5 f hf, fun q hq => by rw [low _ (by omega) (by omega), low _ (by omega) (by omega), low _ (by omega) (by omega)]; exact h6 q hq, fun l w hl w0 w1 => by rw [low _ (by omega) (by omega)]; exact h7 l w hl w0 w1⟩
  · refine List.Perm.trans ?_ (List.perm_insertIdx id (sI s) (i := (sI s).findIdx (fun j => decide (id < j))) List.findIdx_le_length).symm
    exact (List.perm_append_singleton id O).trans (h3.cons id)
  · by_cases z : i < O.length
    · rw [List.getElem?_append_left z] at hi
      have hx : x ∈ sI s := h3.mem_iff.mp (List.mem_of_getElem? hi)
      have hne : x ≠ id := fun e => hni (e ▸ hx)
      have ek : sK (sAdd s id) x = sK s x := uI_ne hne
      have ef : sF (sAdd s id) x = sF s x := uI_ne hne
      rw [ek, ef]
      exact (h4 i x hi).move (fun j j0 j1 => low _ (by omega) (by omega))
    · have hz : i = O.length := by
        have := (List.getElem?_eq_some_iff.mp hi).1
        simp at this
        omega
      subst hz
      have : x = id := by simpa using hi.symm
      subst this
      have ek : sK (sAdd s x) x = -1000007 := uI_self _ _ _
      have ef : sF (sAdd s x) x = fun _ => [] := uI_self _ _ _
      rw [ek, ef]
      have hin : ∀ j : Int, 0 < j → j < 106 → mcrM M (sI s).length x 253 (0 + 55 + 106 * ((O.length : Nat) : Int) + j) = 0 := fun j a b => by
        unfold mcrM mzM
        rw [if_neg (by omega), if_neg (by omega), if_pos (by omega)]
      refine ⟨?_, by rw [hin 1 (by omega) (by omega), if_pos rfl], Or.inl rfl, fun f f0 f1 => ?_⟩
      · unfold mcrM
        rw [if_neg (by omega), if_pos (by omega)]
      · have := hin (2 + f) (by omega) (by omega)
        rw [← Int.add_assoc] at this
        rw [this]
        exact FR.nil
theorem ms_create {N : Nat} {M : jM} {a : aA} {id : Int} {k : Int → jM → Prop} (hN : 5000 ≤ N) (hM : MR M a) (H : ∀ M', frM M M' → MR M' (a_create a id).2 → k (a_create a id).1 M') : w_X7_create N M 252 id k := by
  unfold w_X7_create
  refine msBegin_k hN hM (fun M1 h1 hB f1 => ?_)
  have hS := h1.now
  obtain ⟨O, hO⟩ := MS_iff.mp hS
  have hl := hO.len
  unfold a_create at H
  have fx : frM M M1 := fun c hc => f1 c (by omega)
  unfold w_X7_goCreate
  rw [in_eq]
  simp only [b01, ite_not]
  by_cases h0 : 0 ≤ id ∧ id < 100
  · rw [if_pos (by omega)]
    rw [if_neg (not_not_intro h0)] at H
    refine placeOf_k (by omega) hO (fun i hi => ?_) (fun hn => ?_)
    · rw [if_neg (by omega)]
      rw [if_pos (hO.rec hi).2.2] at H
      exact keepsNo_k (by omega) (H M1 fx h1)
    · rw [if_neg hn] at H
      simp only [Int.reduceAdd]
      rw [if_pos (by omega), hO.2.1]
      refine ⟨by omega, ?_⟩
      by_cases h10 : 10 ≤ (sI (aNow a)).length
      · rw [if_pos h10] at H
        rw [if_pos (by omega)]
        exact keepsNo_k (by omega) (H M1 fx h1)
      · rw [if_neg h10] at H
        rw [if_neg (by omega)]
        have hm : sRec ((sI (aNow a)).length : Nat) := by omega
        have e00 : mzM M1 (sI (aNow a)).length ((0 : Nat) : Int) = M1 := by
          funext c i
          unfold mzM
          rw [if_neg (by omega)]
        have := goCreate_lp (M := M1) (m := (sI (aNow a)).length) (kx := (fun (M6 : jM) => (jB 0 1115 ∧ (w_X7_lays M6 252 (M6 253 0) 0 id (fun M8 => (jB 0 1115 ∧ (jB 0 1115 ∧ jL (jU M8 253 0 (jW ((M8 253 0) + 1))) (fun M10 => (jB 0 1115 ∧ (w_X7_keeps N M10 252 (M10 253 0) (fun x4 M5 => (k x4 M5)))))))))))) hm hO.2.1 ?_ 106 N 0 (by omega) (by omega)
        · rw [e00] at this
          exact this
        · refine ⟨by omega, ?_⟩
          have e0 : mzM M1 (sI (aNow a)).length 106 253 0 = (sI (aNow a)).length := by
            unfold mzM
            rw [if_neg (by omega)]
            exact hO.2.1
          rw [e0, lays_eq hm (by omega)]
          refine ⟨by omega, by omega, ?_⟩
          simp only [jL]
          rw [jU_in (by omega), e0, jW_id (by omega)]
          have e : jU (jU (mzM M1 (sI (aNow a)).length 106) 253 (55 + 106 * (((sI (aNow a)).length : Nat) : Int) + 0) id) 253 0 ((((sI (aNow a)).length : Nat) : Int) + 1) = mcrM M1 (sI (aNow a)).length id := by
            funext c i
            simp only [jU, mcrM, Int.add_zero]
          rw [e]
          have e1 : mcrM M1 (sI (aNow a)).length id 253 0 = (((sI (aNow a)).length : Nat) : Int) + 1 := by simp [mcrM]
          rw [e1]
          refine ⟨by omega, ?_⟩
          have hn2 := mcrM_MO hO h0 hn (by omega)
          refine msKeep_k hN h1 hB (mfr.of (fun c hc => ?_)) (MS_iff.mpr ⟨_, hn2⟩) (by omega) (fun M' f' hM' => H M' (fun c hc => by rw [f' c hc, fx c hc]) hM')
          funext i
          unfold mcrM mzM
          rw [if_neg (by omega), if_neg (by omega), if_neg (by omega)]
  · rw [if_neg (by omega)]
    rw [if_pos h0] at H
    exact keepsNo_k (by omega) (H M1 fx h1)
