/-! insert, change, remove, removeLine of the reference -/
theorem isPlace_eq {M : jM} {r id K f v w : Int} {F : rF} (hr : sRec r) (h : RM M 253 (55 + 106 * r) id K F) (hf : sFld f) (body : Int → Prop) : jL body (fun j29_5 => (if w = (-1) then (w_X7_valuesOf M 252 r f (fun x13 => (w_X7_in v 0 x13 (fun x14 => (j29_5 x14))))) else (w_X7_hasValue M 252 r f v (fun x15 => (if x15 = 0 then (j29_5 0) else (w_X7_subsOf M 252 r f v (fun x16 => (w_X7_in w 0 x16 (fun x17 => (if x17 = 0 then (j29_5 0) else (j29_5 1)))))))))) ) = body (if sPl (F f) v w then 1 else 0) := by
  have l := h.len hf
  show (if w = (-1) then _ else _) = _
  by_cases z : w = -1
  · rw [if_pos z, valuesOf_eq hr h hf, in_eq]
    congr 1
    by_cases y : 0 ≤ v ∧ v ≤ fL (F f)
    · rw [if_pos y, if_pos (Or.inl ⟨z, y⟩)]
    · rw [if_neg y, if_neg (fun x => x.elim (fun q => y q.2) (fun q => q.1 z))]
  · rw [if_neg z, mHasValue_eq hr h hf]
    simp only [b01, ite_not]
    by_cases y : 0 ≤ v ∧ v < fL (F f)
    · have s := h.sub hf y.1 y.2
      rw [if_pos y, subsOf_eq hr hf (by omega), s.1, in_eq]
      simp only [b01, ite_not]
      by_cases x : 0 ≤ w ∧ w ≤ fS (F f) v
      · rw [if_pos x, if_pos (Or.inr ⟨z, y, x⟩)]
      · rw [if_neg x, if_neg (fun q => q.elim (fun q => z q.1) (fun q => x q.2.2))]
    · rw [if_neg y, if_neg (fun q => q.elim (fun q => z q.1) (fun q => y q.2.1))]
theorem setF_MO {M M' : jM} {s : aS} {O : List Int} {i : Nat} {id f : Int} {L : List (List Int)} (h : MO M 253 0 s O) (hi : O[i]? = some id) (e : ∀ j : Int, (j < 55 + 106 * (i : Int) ∨ 55 + 106 * (i : Int) + 106 ≤ j) → M' 253 j = M 253 j) (hr : RM M' 253 (55 + 106 * (i : Int)) id (sK s id) (uI (sF s id) f L)) : MO M' 253 0 (setF s id f L) O := by
  refine h.setRec hi (fun j _ _ hj => e j hj) ?_ rfl (fun _ _ => rfl) (fun j hj => uI_ne hj) rfl rfl rfl
  show RM M' 253 (55 + 106 * (i : Int)) id (sK s id) (uI (sF s) id (uI (sF s id) f L) id)
  rw [uI_self]
  exact hr
theorem setFs_MO {M M' : jM} {s : aS} {O : List Int} {i : Nat} {id : Int} {F : rF} (h : MO M 253 0 s O) (hi : O[i]? = some id) (e : ∀ j : Int, (j < 55 + 106 * (i : Int) ∨ 55 + 106 * (i : Int) + 106 ≤ j) → M' 253 j = M 253 j) (hr : RM M' 253 (55 + 106 * (i : Int)) id (sK s id) F) : MO M' 253 0 (setFs s id F) O := by
  refine h.setRec hi (fun j _ _ hj => e j hj) ?_ rfl (fun _ _ => rfl) (fun j hj => uI_ne hj) rfl rfl rfl
  show RM M' 253 (55 + 106 * (i : Int)) id (sK s id) (uI (sF s) id F id)
  rw [uI_self]
  exact hr
theorem mins_row {M : jM} {o f v m x c : Int} (h : c ≠ 253) : mins M o f v m x c = M c := by funext i; simp [mins, muM, h]
theorem minsS_row {M : jM} {o f v w m x c : Int} (h : c ≠ 253) : minsS M o f v w m x c = M c := by funext i; simp [minsS, musM, h]
theorem mdel_row {M : jM} {o f v m c : Int} (h : c ≠ 253) : mdel M o f v m c = M c := by funext i; simp [mdel, emM, mdM, h]
theorem mdelS_row {M : jM} {o f v w m c : Int} (h : c ≠ 253) : mdelS M o f v w m c = M c := by funext i; simp [mdelS, mrsM, h]
theorem mins_out {M : jM} {o f v m x j : Int} (hf : sFld f) (hv : 0 ≤ v ∧ v < 5) (hm : 0 ≤ m ∧ m < 5) (h : j < o ∨ o + 106 ≤ j) : mins M o f v m x 253 j = M 253 j := by
  simp only [mins, muM]
  rw [if_neg (by omega), if_neg (by omega), if_neg (by omega), if_neg (by omega), if_neg (by omega), if_neg (by omega)]
theorem minsS_out {M : jM} {o f v w m x j : Int} (hf : sFld f) (hv : 0 ≤ v ∧ v < 5) (hw : 0 ≤ w ∧ w < 4) (hm : 0 ≤ m ∧ m < 4) (h : j < o ∨ o + 106 ≤ j) : minsS M o f v w m x 253 j = M 253 j := by
  simp only [minsS, musM]
  rw [if_neg (by omega), if_neg (by omega), if_neg (by omega)]
theorem mdel_out {M : jM} {o f v m j : Int} (hf : sFld f) (hv : 0 ≤ v ∧ v < 5) (hm : 1 ≤ m ∧ m ≤ 5) (h : j < o ∨ o + 106 ≤ j) : mdel M o f v m 253 j = M 253 j := by
  simp only [mdel, emM, mdM]
  rw [if_neg (by omega), if_neg (by omega), if_neg (by omega), if_neg (by omega), if_neg (by omega)]
theorem mdelS_out {M : jM} {o f v w m j : Int} (hf : sFld f) (hv : 0 ≤ v ∧ v < 5) (hw : 0 ≤ w) (h : j < o ∨ o + 106 ≤ j) : mdelS M o f v w m 253 j = M 253 j := by
  simp only [mdelS, mrsM]
  rw [if_neg (by omega), if_neg (by omega)]
theorem ms_insert {N : Nat} {M : jM} {a : aA} {u id f v w x : Int} {k : Int → jM → Prop} (hN : 5000 ≤ N) (hM : MR M a) (H : ∀ M', frM M M' → MR M' (a_insert a u id f v w x).2 → k (a_insert a u id f v w x).1 M') : w_X7_insert N M 252 u id f v w x k := by
  unfold w_X7_insert
  have hS := hM.now
  obtain ⟨O, hO⟩ := MS_iff.mp hS
  unfold a_insert at H
  have hfail : ∀ e : Int, e = -1000001 → (¬ sUsr u ∨ id ∉ sI (aNow a) ∨ ¬ sFld f) → k e M := fun e he z => by
    rw [if_pos z] at H
    rw [he]
    exact H M (fun _ _ => rfl) hM
  refine placeOf_k (by omega) hO (fun i hi => ?_) (fun hn => ?_)
  · have hr := hO.rec hi
    by_cases hu : sUsr u
    · refine errOk_k hN hS hu hr.2.2 ?_
      rw [if_neg (by omega), isField_eq]
      simp only [b01, ite_not]
      by_cases hf : sFld f
      · rw [if_pos hf, isPlace_eq hr.1 hr.2.1 hf]
        simp only [b01, ite_not]
        rw [if_neg (fun z => z.elim (fun z => z hu) (fun z => z.elim (fun z => z hr.2.2) (fun z => z hf)))] at H
        by_cases hp : sPl (sF (aNow a) id f) v w
        · rw [if_pos hp, isNum_eq]
          rw [if_neg (not_not_intro hp)] at H
          simp only [b01, ite_not]
          by_cases hx : sNum x
          · rw [if_pos hx, isBarred_eq hr.1 hr.2.1 hu]
            rw [if_neg (not_not_intro hx)] at H
            by_cases h2 : sOpen (aNow a) u id
            · rw [if_neg (not_not_intro h2)] at H
              rw [if_pos h2, if_pos (by omega)]
              refine msBegin_k hN hM (fun M1 h1 hB f1 => ?_)
              have fx : frM M M1 := fun c hc => f1 c (by omega)
              have hO1 := hO.same (M' := M1) (f1 253 (by omega))
              have hr1 := hO1.rec hi
              have l := hr1.2.1.len hf
              refine goInsert_eq hN hr1.1 hr1.2.1 hf hp (fun z z5 => ?_) (fun z z5 => ?_) (fun z z5 => ?_) (fun z z5 => ?_)
              · rw [if_pos z, if_pos z5] at H
                exact keepsNo_k (by omega) (H M1 fx h1)
              · rw [if_pos z, if_neg (by omega)] at H
                have hp1 : 0 ≤ v ∧ v ≤ fL (sF (aNow a) id f) := by rcases hp with q | q; exact q.2; exact absurd z q.1
                have hn := setF_MO hO1 hi (fun j hj => mins_out hf (by omega) (by omega) hj) (mins_RM (x := x) hr1.2.1 hf hp1.1 hp1.2 z5 hx)
                exact msKeep_k hN h1 hB (mfr.of (fun c hc => mins_row hc)) (MS_iff.mpr ⟨O, hn⟩) (by omega) (fun M' f' hM' => H M' (fun c hc => by rw [f' c hc, fx c hc]) hM')
              · rw [if_neg z, if_pos z5] at H
                exact keepsNo_k (by omega) (H M1 fx h1)
              · rw [if_neg z, if_neg (by omega)] at H
                have hp1 : (0 ≤ v ∧ v < fL (sF (aNow a) id f)) ∧ 0 ≤ w ∧ w ≤ fS (sF (aNow a) id f) v := by rcases hp with q | q; exact absurd q.1 z; exact q.2
                have s := hr1.2.1.sub hf hp1.1.1 hp1.1.2
                have hn := setF_MO hO1 hi (fun j hj => minsS_out hf (by omega) (by omega) (by omega) hj) (minsS_RM (x := x) hr1.2.1 hf hp1.1.1 hp1.1.2 hp1.2.1 hp1.2.2 z5 hx)
                exact msKeep_k hN h1 hB (mfr.of (fun c hc => minsS_row hc)) (MS_iff.mpr ⟨O, hn⟩) (by omega) (fun M' f' hM' => H M' (fun c hc => by rw [f' c hc, fx c hc]) hM')
            · rw [if_pos h2] at H
              rw [if_neg h2, if_neg (by omega)]
              exact H M (fun _ _ => rfl) hM
          · rw [if_neg hx]
            rw [if_pos hx] at H
            exact H M (fun _ _ => rfl) hM
        · rw [if_neg hp]
          rw [if_pos hp] at H
          exact H M (fun _ _ => rfl) hM
      · rw [if_neg hf]
        exact hfail _ rfl (Or.inr (Or.inr hf))
    · refine errBad_k hN hS (Or.inl hu) ?_
      rw [if_pos (by omega)]
      exact hfail _ rfl (Or.inl hu)
  · refine errBad_k hN hS (Or.inr hn) ?_
    rw [if_pos (by omega)]
    exact hfail _ rfl (Or.inr (Or.inl hn))
theorem ms_change {N : Nat} {M : jM} {a : aA} {u id f v w x : Int} {k : Int → jM → Prop} (hN : 5000 ≤ N) (hM : MR M a) (H : ∀ M', frM M M' → MR M' (a_change a u id f v w x).2 → k (a_change a u id f v w x).1 M') : w_X7_change N M 252 u id f v w x k := by
  unfold w_X7_change
  have hS := hM.now
  obtain ⟨O, hO⟩ := MS_iff.mp hS
  unfold a_change at H
  have hfail : ∀ e : Int, e = -1000001 → (¬ sUsr u ∨ id ∉ sI (aNow a) ∨ ¬ sFld f) → k e M := fun e he z => by
    rw [if_pos z] at H
    rw [he]
    exact H M (fun _ _ => rfl) hM
  refine placeOf_k (by omega) hO (fun i hi => ?_) (fun hn => ?_)
  · have hr := hO.rec hi
    by_cases hu : sUsr u
    · refine errOk_k hN hS hu hr.2.2 ?_
      rw [if_neg (by omega), isField_eq]
      simp only [b01, ite_not]
      by_cases hf : sFld f
      · rw [if_pos hf, mHasSub_eq hr.1 hr.2.1 hf]
        simp only [b01, ite_not]
        rw [if_neg (fun z => z.elim (fun z => z hu) (fun z => z.elim (fun z => z hr.2.2) (fun z => z hf)))] at H
        by_cases hp : (0 ≤ v ∧ v < fL (sF (aNow a) id f)) ∧ 0 ≤ w ∧ w < fS (sF (aNow a) id f) v
        · rw [if_pos hp, isNum_eq]
          rw [if_neg (not_not_intro hp)] at H
          simp only [b01, ite_not]
          by_cases hx : sNum x
          · rw [if_pos hx, isBarred_eq hr.1 hr.2.1 hu]
            rw [if_neg (not_not_intro hx)] at H
            by_cases h2 : sOpen (aNow a) u id
            · rw [if_neg (not_not_intro h2)] at H
              rw [if_pos h2, if_pos (by omega)]
              refine msBegin_k hN hM (fun M1 h1 hB f1 => ?_)
              have fx : frM M M1 := fun c hc => f1 c (by omega)
              have hO1 := hO.same (M' := M1) (f1 253 (by omega))
              have hr1 := hO1.rec hi
              have l := hr1.2.1.len hf
              have s := hr1.2.1.sub hf hp.1.1 hp.1.2
              have nn := hr1.2.1.num hf hp.1.1 hp.1.2 hp.2.1 hp.2.2
              rw [mnum_eq hr1.1 hf (by omega) (by omega), nn.1, numCell_eq hf (by omega) (by omega), lays_eq hr1.1 (by omega)]
              have q := mchg_RM (x := x) hr1.2.1 hf hp.1.1 hp.1.2 hp.2.1 hp.2.2 hx
              rw [show 55 + 106 * (i : Int) + (26 + 20 * f + 4 * v + w) = 55 + 106 * (i : Int) + 26 + 20 * f + 4 * v + w by omega]
              have hn := setF_MO hO1 hi (fun j hj => jU_in (by omega)) q
              exact msKeep_k hN h1 hB (mfr.of (fun c hc => jU_row hc)) (MS_iff.mpr ⟨O, hn⟩) (by omega) (fun M' f' hM' => H M' (fun c hc => by rw [f' c hc, fx c hc]) hM')
            · rw [if_pos h2] at H
              rw [if_neg h2, if_neg (by omega)]
              exact H M (fun _ _ => rfl) hM
          · rw [if_neg hx]
            rw [if_pos hx] at H
            exact H M (fun _ _ => rfl) hM
        · rw [if_neg hp]
          rw [if_pos hp] at H
          exact H M (fun _ _ => rfl) hM
      · rw [if_neg hf]
        exact hfail _ rfl (Or.inr (Or.inr hf))
    · refine errBad_k hN hS (Or.inl hu) ?_
      rw [if_pos (by omega)]
      exact hfail _ rfl (Or.inl hu)
  · refine errBad_k hN hS (Or.inr hn) ?_
    rw [if_pos (by omega)]
    exact hfail _ rfl (Or.inr (Or.inl hn))
theorem isPart_eq {M : jM} {r id K f v w : Int} {F : rF} (hr : sRec r) (h : RM M 253 (55 + 106 * r) id K F) (hf : sFld f) (hv : 0 ≤ v ∧ v < fL (F f)) (body no : Prop) : jL body (fun j38_5 => (if w = (-1) then (j38_5) else (w_X7_hasSub M 252 r f v w (fun x12 => (if x12 = 0 then no else (j38_5)))))) = (if w = -1 ∨ (0 ≤ w ∧ w < fS (F f) v) then body else no) := by
  show (if w = (-1) then _ else _) = _
  by_cases z : w = -1
  · rw [if_pos z, if_pos (Or.inl z)]
  · rw [if_neg z, mHasSub_eq hr h hf]
    simp only [b01, ite_not]
    by_cases y : 0 ≤ w ∧ w < fS (F f) v
    · rw [if_pos ⟨hv, y⟩, if_pos (Or.inr y)]
    · rw [if_neg (fun q => y q.2), if_neg (fun q => q.elim z y)]
theorem ms_remove {N : Nat} {M : jM} {a : aA} {u id f v w : Int} {k : Int → jM → Prop} (hN : 5000 ≤ N) (hM : MR M a) (H : ∀ M', frM M M' → MR M' (a_remove a u id f v w).2 → k (a_remove a u id f v w).1 M') : w_X7_remove N M 252 u id f v w k := by
  unfold w_X7_remove
  have hS := hM.now
  obtain ⟨O, hO⟩ := MS_iff.mp hS
  unfold a_remove at H
  have hfail : ∀ e : Int, e = -1000001 → (¬ sUsr u ∨ id ∉ sI (aNow a) ∨ ¬ sFld f) → k e M := fun e he z => by
    rw [if_pos z] at H
    rw [he]
    exact H M (fun _ _ => rfl) hM
  refine placeOf_k (by omega) hO (fun i hi => ?_) (fun hn => ?_)
  · have hr := hO.rec hi
    by_cases hu : sUsr u
    · refine errOk_k hN hS hu hr.2.2 ?_
      rw [if_neg (by omega), isField_eq]
      simp only [b01, ite_not]
      by_cases hf : sFld f
      · rw [if_pos hf, mHasValue_eq hr.1 hr.2.1 hf]
        simp only [b01, ite_not]
        rw [if_neg (fun z => z.elim (fun z => z hu) (fun z => z.elim (fun z => z hr.2.2) (fun z => z hf)))] at H
        by_cases hv : 0 ≤ v ∧ v < fL (sF (aNow a) id f)
        · rw [if_pos hv, isPart_eq hr.1 hr.2.1 hf hv]
          by_cases hw : w = -1 ∨ (0 ≤ w ∧ w < fS (sF (aNow a) id f) v)
          · rw [if_pos hw, isBarred_eq hr.1 hr.2.1 hu]
            rw [if_neg (not_not_intro ⟨hv, hw⟩)] at H
            by_cases h2 : sOpen (aNow a) u id
            · rw [if_neg (not_not_intro h2)] at H
              rw [if_pos h2, if_pos (by omega)]
              refine msBegin_k hN hM (fun M1 h1 hB f1 => ?_)
              have fx : frM M M1 := fun c hc => f1 c (by omega)
              have hO1 := hO.same (M' := M1) (f1 253 (by omega))
              have hr1 := hO1.rec hi
              have l := hr1.2.1.len hf
              have s := hr1.2.1.sub hf hv.1 hv.2
              refine goRemove_eq hN hr1.1 hr1.2.1 hf hv hw (fun z => ?_) (fun z => ?_)
              · rw [if_pos z] at H
                have hn := setF_MO hO1 hi (fun j hj => mdel_out hf (by omega) (by omega) hj) (mdel_RM hr1.2.1 hf hv.1 hv.2)
                exact msKeep_k hN h1 hB (mfr.of (fun c hc => mdel_row hc)) (MS_iff.mpr ⟨O, hn⟩) (by omega) (fun M' f' hM' => H M' (fun c hc => by rw [f' c hc, fx c hc]) hM')
              · rw [if_neg z] at H
                have hn := setF_MO hO1 hi (fun j hj => mdelS_out hf (by omega) (by omega) hj) (mdelS_RM (w := w) hr1.2.1 hf hv.1 hv.2 (by omega) (by omega) (by omega))
                exact msKeep_k hN h1 hB (mfr.of (fun c hc => mdelS_row hc)) (MS_iff.mpr ⟨O, hn⟩) (by omega) (fun M' f' hM' => H M' (fun c hc => by rw [f' c hc, fx c hc]) hM')
            · rw [if_pos h2] at H
              rw [if_neg h2, if_neg (by omega)]
              exact H M (fun _ _ => rfl) hM
          · rw [if_neg hw]
            rw [if_pos (fun z => hw z.2)] at H
            exact H M (fun _ _ => rfl) hM
        · rw [if_neg hv]
          rw [if_pos (fun z => hv z.1)] at H
          exact H M (fun _ _ => rfl) hM
      · rw [if_neg hf]
        exact hfail _ rfl (Or.inr (Or.inr hf))
    · refine errBad_k hN hS (Or.inl hu) ?_
      rw [if_pos (by omega)]
      exact hfail _ rfl (Or.inl hu)
  · refine errBad_k hN hS (Or.inr hn) ?_
    rw [if_pos (by omega)]
    exact hfail _ rfl (Or.inr (Or.inl hn))
