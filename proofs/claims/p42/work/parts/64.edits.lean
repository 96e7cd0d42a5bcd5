/-! edits: insert, change, remove answer as their bounds say, and what they put or take is there, or gone -/
def aStep (a a' : aA) : Prop := (aNow a' = aNow a ∧ aH a' = aH a) ∨ aH a' = hPush (aH a) (aNow a)
theorem aStep.same {a : aA} : aStep a a := Or.inl ⟨rfl, rfl⟩
theorem aStep.done {a : aA} {s : aS} : aStep a (aDo a s) := Or.inr rfl
theorem locker_in {a : aA} {id : Int} (h : id ∈ sI (aNow a)) : a_locker a id = sK (aNow a) id := by rw [a_locker, if_neg (not_not_intro h)]
theorem locker_out {a : aA} {id : Int} (h : id ∉ sI (aNow a)) : a_locker a id = -1000001 := by rw [a_locker, if_pos h]
theorem values_in {a : aA} {id f : Int} (h : id ∈ sI (aNow a)) (hf : sFld f) : a_values a id f = fL (sF (aNow a) id f) := by
  rw [a_values, if_neg (fun q => q.elim (fun z => z h) (fun z => z hf))]
theorem subvalues_in {a : aA} {id f v : Int} (h : id ∈ sI (aNow a)) (hf : sFld f) (hv : 0 ≤ v ∧ v < fL (sF (aNow a) id f)) : a_subvalues a id f v = fS (sF (aNow a) id f) v := by
  rw [a_subvalues, if_neg (fun q => q.elim (fun z => z h) (fun z => z hf)), if_neg (not_not_intro hv)]
theorem subvalues_out {a : aA} {id f v : Int} (hv : ¬ (0 ≤ v ∧ v < fL (sF (aNow a) id f))) : a_subvalues a id f v = -1000001 := by
  rw [a_subvalues]
  by_cases c : id ∉ sI (aNow a) ∨ ¬ sFld f
  · rw [if_pos c]
  · rw [if_neg c, if_pos hv]
theorem get_in {a : aA} {id f v w : Int} (h : id ∈ sI (aNow a)) (hf : sFld f) (hv : 0 ≤ v ∧ v < fL (sF (aNow a) id f)) (hw : 0 ≤ w ∧ w < fS (sF (aNow a) id f) v) : a_get a id f v w = fN (sF (aNow a) id f) v w := by
  rw [a_get, if_neg (fun q => q.elim (fun z => z h) (fun z => z hf)), if_neg (not_not_intro ⟨hv, hw⟩)]
theorem get_out {a : aA} {id f v w : Int} (hv : ¬ ((0 ≤ v ∧ v < fL (sF (aNow a) id f)) ∧ 0 ≤ w ∧ w < fS (sF (aNow a) id f) v)) : a_get a id f v w = -1000001 := by
  rw [a_get]
  by_cases c : id ∉ sI (aNow a) ∨ ¬ sFld f
  · rw [if_pos c]
  · rw [if_neg c, if_pos hv]
theorem setF_at {s : aS} {id f : Int} {L : List (List Int)} : sF (setF s id f L) id f = L := by simp [setF, sF, uI]
theorem fL_insV {L : List (List Int)} {v x : Int} (h0 : 0 ≤ v) (h1 : v ≤ fL L) : fL (fInsV L v x) = fL L + 1 := by
  unfold fL fInsV at *
  rw [List.length_insertIdx]
  grind
theorem fV_insV {L : List (List Int)} {v x : Int} (h0 : 0 ≤ v) (h1 : v ≤ fL L) : fV (fInsV L v x) v = [x] := by
  unfold fL at h1
  unfold fV fInsV
  rw [List.getD_eq_getElem?_getD]
  grind
theorem fL_set {L : List (List Int)} {v : Int} {V : List Int} : fL (L.set v.toNat V) = fL L := by unfold fL; rw [List.length_set]
theorem fV_set {L : List (List Int)} {v : Int} {V : List Int} (h0 : 0 ≤ v) (h1 : v < fL L) : fV (L.set v.toNat V) v = V := by
  unfold fL at h1
  unfold fV
  rw [List.getD_eq_getElem?_getD]
  grind
theorem fS_insS {L : List (List Int)} {v w x : Int} (h0 : 0 ≤ v) (h1 : v < fL L) (w0 : 0 ≤ w) (w1 : w ≤ fS L v) : fS (fInsS L v w x) v = fS L v + 1 ∧ fN (fInsS L v w x) v w = x := by
  unfold fN fS fInsS at *
  rw [fV_set h0 h1, List.length_insertIdx, List.getD_eq_getElem?_getD]
  constructor <;> grind
theorem fS_chg {L : List (List Int)} {v w x : Int} (h0 : 0 ≤ v) (h1 : v < fL L) (w0 : 0 ≤ w) (w1 : w < fS L v) : fS (fChg L v w x) v = fS L v ∧ fN (fChg L v w x) v w = x := by
  unfold fN fS fChg at *
  rw [fV_set h0 h1, List.length_set, List.getD_eq_getElem?_getD]
  constructor <;> grind
theorem fS_delS {L : List (List Int)} {v w : Int} (h0 : 0 ≤ v) (h1 : v < fL L) (w0 : 0 ≤ w) (w1 : w < fS L v) : fS (fDelS L v w) v = fS L v - 1 := by
  unfold fS fDelS at *
  rw [fV_set h0 h1, List.length_eraseIdx]
  grind
set_option maxHeartbeats 2000000 in
theorem ed_k {N : Nat} {M : jM} {a : aA} {k : Int → jM → Prop} {u id how y : Int} (hN : 300 ≤ N) (hX : XR M a) (hu : 0 ≤ u ∧ u < 5) (hh : how = 0 ∨ how = 1 ∨ how = 2) (K : ∀ (M' : jM) (a' : aA), XR M' a' → aStep a a' → k 1 M') : w_L_edits N M 0 u id how y k := by
  have hs := hX.aok
  unfold w_L_edits
  refine low_k (by omega) (by omega) (fun x1 _ _ => ?_)
  refine jL_s (fun x2 => x2 = 4 ∨ x2 = 5) (fun j hj => ?_) (fun x2 h2 => ?_)
  · by_cases c : x1 = 0
    · rw [if_pos c]; exact hj _ (Or.inr rfl)
    · rw [if_neg c]; exact hj _ (Or.inl rfl)
  refine low_k (by omega) (by omega) (fun f f0 f1 => ?_)
  refine jL_s (fun x5 => (x5 = 0 ∧ sUsr u ∧ id ∈ sI (aNow a) ∧ sFld f) ∨ (x5 = 1 ∧ (¬ sUsr u ∨ id ∉ sI (aNow a) ∨ ¬ sFld f))) (fun j hj => ?_) (fun x5 h5 => ?_)
  · by_cases c : u ≤ 3
    · rw [if_pos c]
      refine v_locker hN hX (fun w hw => ?_)
      by_cases c2 : id ∈ sI (aNow a)
      · rw [locker_in c2] at hw
        have := (hs.2 id c2).2.1
        rw [if_neg (by omega)]
        by_cases c3 : f = 4
        · rw [if_pos c3]; exact hj _ (Or.inr ⟨rfl, Or.inr (Or.inr (by omega))⟩)
        · rw [if_neg c3]; exact hj _ (Or.inl ⟨rfl, by omega, c2, by omega⟩)
      · rw [locker_out c2] at hw
        rw [if_pos hw]; exact hj _ (Or.inr ⟨rfl, Or.inr (Or.inl c2)⟩)
    · rw [if_neg c]; exact hj _ (Or.inr ⟨rfl, Or.inl (by omega)⟩)
  generalize hL : sF (aNow a) id f = L
  refine jL_s (fun x7 => (x5 = 0 → x7 = fL L) ∧ (x5 = 1 → x7 = 0) ∧ 0 ≤ x7 ∧ x7 ≤ 5) (fun j hj => ?_) (fun x7 h7 => ?_)
  · rcases h5 with ⟨c, c1, c2, c3⟩ | ⟨c, c1⟩
    · rw [if_pos c]
      refine v_values hN hX (fun w hw => ?_)
      rw [values_in c2 c3, hL] at hw
      subst hw
      have := fL_ok ((hs.2 id c2).2.2 f c3)
      rw [hL] at this
      exact hj _ ⟨fun _ => rfl, fun q => by omega, this⟩
    · rw [if_neg (by omega)]
      exact hj _ ⟨fun q => by omega, fun _ => rfl, by omega, by omega⟩
  have hok : x5 = 0 → id ∈ sI (aNow a) ∧ sFld f ∧ sUsr u ∧ fOK L := by
    intro q
    rcases h5 with ⟨c, c1, c2, c3⟩ | ⟨c, c1⟩
    · exact ⟨c2, c3, c1, by rw [← hL]; exact (hs.2 id c2).2.2 f c3⟩
    · omega
  have h50 : x5 = 0 ∨ x5 = 1 := by rcases h5 with ⟨c, -⟩ | ⟨c, -⟩ <;> omega
  obtain ⟨h7a, h7b, h7c, h7d⟩ := h7
  rw [jW_id (by omega : jR (x7 + 2))]
  refine low_k (by omega) (by omega) (fun v v0 v1 => ?_)
  refine jL_s (fun x10 => (v < x7 → x10 = fS L v ∧ 1 ≤ x10) ∧ (¬ v < x7 → x10 = 0) ∧ 0 ≤ x10 ∧ x10 ≤ 4) (fun j hj => ?_) (fun x10 h10 => ?_)
  · by_cases c : v < x7
    · rw [if_pos c]
      refine v_subvalues hN hX (fun w hw => ?_)
      have c5 : x5 = 0 := by omega
      obtain ⟨d1, d2, d3, d4⟩ := hok c5
      have d5 := h7a c5
      rw [subvalues_in d1 d2 (by rw [hL]; omega), hL] at hw
      have := fS_ok d4 v0 (by omega)
      exact hj _ ⟨fun _ => ⟨hw, by omega⟩, fun q => absurd c q, by omega, by omega⟩
    · rw [if_neg c]
      exact hj _ ⟨fun q => absurd q c, fun _ => rfl, by omega, by omega⟩
  obtain ⟨h10a, h10b, h10c, h10d⟩ := h10
  rw [jW_id (by omega : jR (x10 + 3))]
  refine low_k (by omega) (by omega) (fun x12 _ _ => ?_)
  refine jL_w (by omega) (fun w hw => ?_)
  refine low_k (by omega) (by omega) (fun x14 _ _ => ?_)
  refine jL_s (fun x15 => x15 = 9 ∨ x15 = 2003) (fun j hj => ?_) (fun x15 h15 => ?_)
  · by_cases c : x14 = 0
    · rw [if_pos c]; exact hj _ (Or.inr rfl)
    · rw [if_neg c]; exact hj _ (Or.inl rfl)
  refine low_k (by omega) (by omega) (fun x17 _ _ => ?_)
  refine low_k (by omega) (by omega) (fun x18 _ _ => ?_)
  refine jL_s (fun x19 => x19 = 4 ∨ x19 = 1001) (fun j hj => ?_) (fun x19 h19 => ?_)
  · by_cases c : x18 = 0
    · rw [if_pos c]; exact hj _ (Or.inr rfl)
    · rw [if_neg c]; exact hj _ (Or.inl rfl)
  refine jL_w (by omega) (fun x hx => ?_)
  refine jL_s (fun x22 => (x22 = 0 ∧ sNum x) ∨ (x22 = 1 ∧ ¬ sNum x)) (fun j hj => ?_) (fun x22 h22 => ?_)
  · by_cases c : x < -999
    · rw [if_pos c]; exact hj _ (Or.inr ⟨rfl, by omega⟩)
    · rw [if_neg c]
      by_cases c2 : x ≤ 999
      · rw [if_pos c2]; exact hj _ (Or.inl ⟨rfl, by omega⟩)
      · rw [if_neg c2]; exact hj _ (Or.inr ⟨rfl, by omega⟩)
  refine jL_s (fun x24 => (x24 = 0 ∧ (x5 = 0 → sOpen (aNow a) u id)) ∨ (x24 = 1 ∧ x5 = 0 ∧ ¬ sOpen (aNow a) u id)) (fun j hj => ?_) (fun x24 h24 => ?_)
  · by_cases c5 : x5 = 0
    · rw [if_pos c5]
      obtain ⟨d1, -⟩ := hok c5
      refine v_locker hN hX (fun q hq => ?_)
      rw [locker_in d1] at hq
      by_cases c : q = -1000007
      · rw [if_pos c]; exact hj _ (Or.inl ⟨rfl, fun _ => Or.inl (by omega)⟩)
      · rw [if_neg c]
        refine v_locker hN hX (fun q2 hq2 => ?_)
        rw [locker_in d1] at hq2
        by_cases c2 : q2 = u
        · rw [if_pos c2]; exact hj _ (Or.inl ⟨rfl, fun _ => Or.inr (by omega)⟩)
        · rw [if_neg c2]; exact hj _ (Or.inr ⟨rfl, c5, fun z => z.elim (fun z => by omega) (fun z => by omega)⟩)
    · rw [if_neg c5]; exact hj _ (Or.inl ⟨rfl, fun z => absurd z c5⟩)
  refine jL_s (fun x26 => ((v < x7 ∧ 0 ≤ w ∧ w < x10) ∧ x26 = fN L v w ∧ -999 ≤ x26 ∧ x26 ≤ 999) ∨ (¬ (v < x7 ∧ 0 ≤ w ∧ w < x10) ∧ x26 = -1000001)) (fun j hj => ?_) (fun x26 h26 => ?_)
  · by_cases c : v < x7
    · rw [if_pos c]
      by_cases c2 : w < 0
      · rw [if_pos c2]; exact hj _ (Or.inr ⟨by omega, rfl⟩)
      · rw [if_neg c2]
        by_cases c3 : w < x10
        · rw [if_pos c3]
          refine v_get hN hX (fun q hq => ?_)
          have c5 : x5 = 0 := by omega
          obtain ⟨d1, d2, d3, d4⟩ := hok c5
          have d5 := h7a c5
          have d6 := (h10a c).1
          rw [get_in d1 d2 (by rw [hL]; omega) (by rw [hL]; omega), hL] at hq
          have := fN_ok d4 v0 (by omega : v < fL L) (by omega : 0 ≤ w) (by omega : w < fS L v)
          exact hj _ (Or.inl ⟨⟨c, by omega, c3⟩, hq, by omega, by omega⟩)
        · rw [if_neg c3]; exact hj _ (Or.inr ⟨by omega, rfl⟩)
    · rw [if_neg c]; exact hj _ (Or.inr ⟨by omega, rfl⟩)
  have hbad : x5 = 1 → ¬ sUsr u ∨ id ∉ sI (aNow a) ∨ ¬ sFld f := by
    intro q
    rcases h5 with ⟨c, -⟩ | ⟨c, c1⟩
    · omega
    · exact c1
  have hgood : x5 = 0 → ¬ (¬ sUsr u ∨ id ∉ sI (aNow a) ∨ ¬ sFld f) := by
    intro q z
    obtain ⟨d1, d2, d3, d4⟩ := hok q
    rcases z with z | z | z
    · exact z d3
    · exact z d1
    · exact z d2
  rcases hh with hh | hh | hh
  · rw [if_pos hh]
    refine jL_s (fun x28 => (x28 = 0 ∧ x5 = 0 ∧ sPl L v w) ∨ (x28 = 1 ∧ (x5 = 1 ∨ (x5 = 0 ∧ ¬ sPl L v w)))) (fun j hj => ?_) (fun x28 h28 => ?_)
    · by_cases c5 : x5 = 0
      · rw [if_pos c5]
        have d5 := h7a c5
        by_cases c : w < 0
        · rw [if_pos c]
          by_cases c2 : v ≤ x7
          · rw [if_pos c2]; exact hj _ (Or.inl ⟨rfl, c5, Or.inl ⟨by omega, by omega, by omega⟩⟩)
          · rw [if_neg c2]; exact hj _ (Or.inr ⟨rfl, Or.inr ⟨c5, fun z => by omega⟩⟩)
        · rw [if_neg c]
          by_cases c2 : v < x7
          · rw [if_pos c2]
            have d6 := (h10a c2).1
            by_cases c3 : w ≤ x10
            · rw [if_pos c3]; exact hj _ (Or.inl ⟨rfl, c5, Or.inr ⟨by omega, by omega, by omega, by omega⟩⟩)
            · rw [if_neg c3]; exact hj _ (Or.inr ⟨rfl, Or.inr ⟨c5, fun z => by omega⟩⟩)
          · rw [if_neg c2]; exact hj _ (Or.inr ⟨rfl, Or.inr ⟨c5, fun z => by omega⟩⟩)
      · rw [if_neg c5]; exact hj _ (Or.inr ⟨rfl, Or.inl (by omega)⟩)
    refine jL_s (fun x30 => (x30 = 0 ∨ x30 = 1) ∧ (w < 0 → (x30 = 1 ↔ x7 = 5)) ∧ (¬ w < 0 → (x30 = 1 ↔ x10 = 4))) (fun j hj => ?_) (fun x30 h30 => ?_)
    · by_cases c : w < 0
      · rw [if_pos c]
        by_cases c2 : x7 = 5
        · rw [if_pos c2]; exact hj _ ⟨Or.inr rfl, fun _ => ⟨fun _ => c2, fun _ => rfl⟩, fun z => absurd c z⟩
        · rw [if_neg c2]; exact hj _ ⟨Or.inl rfl, fun _ => ⟨fun z => by omega, fun z => absurd z c2⟩, fun z => absurd c z⟩
      · rw [if_neg c]
        by_cases c2 : x10 = 4
        · rw [if_pos c2]; exact hj _ ⟨Or.inr rfl, fun z => absurd z c, fun _ => ⟨fun _ => c2, fun _ => rfl⟩⟩
        · rw [if_neg c2]; exact hj _ ⟨Or.inl rfl, fun z => absurd z c, fun _ => ⟨fun z => by omega, fun z => absurd z c2⟩⟩
    obtain ⟨h30a, h30b, h30c⟩ := h30
    refine v_insert hN hX (fun t M1 ht hX1 => ?_)
    have hE : (x28 = 1 ∧ a_insert a u id f v w x = (-1000001, a)) ∨ (x28 = 0 ∧ x22 = 1 ∧ a_insert a u id f v w x = (-1000002, a)) ∨ (x28 = 0 ∧ x22 = 0 ∧ x24 = 1 ∧ a_insert a u id f v w x = (-1000006, a)) ∨ (x28 = 0 ∧ x22 = 0 ∧ x24 = 0 ∧ x30 = 1 ∧ a_insert a u id f v w x = (-1000004, a)) ∨ (x28 = 0 ∧ x22 = 0 ∧ x24 = 0 ∧ x30 = 0 ∧ w < 0 ∧ a_insert a u id f v w x = (fL L + 1, aDo a (setF (aNow a) id f (fInsV L v x)))) ∨ (x28 = 0 ∧ x22 = 0 ∧ x24 = 0 ∧ x30 = 0 ∧ ¬ w < 0 ∧ a_insert a u id f v w x = (fS L v + 1, aDo a (setF (aNow a) id f (fInsS L v w x)))) := by
      unfold a_insert
      rw [hL]
      rcases h28 with ⟨e28, c5, cp⟩ | ⟨e28, c5 | ⟨c5, cp⟩⟩
      · rw [if_neg (hgood c5), if_neg (not_not_intro cp)]
        have d5 := h7a c5
        rcases h22 with ⟨e22, cn⟩ | ⟨e22, cn⟩
        · rw [if_neg (not_not_intro cn)]
          rcases h24 with ⟨e24, co⟩ | ⟨e24, -, co⟩
          · rw [if_neg (not_not_intro (co c5))]
            by_cases c : w < 0
            · rw [if_pos (by omega : w = -1)]
              by_cases c2 : x30 = 1
              · rw [if_pos (by have := (h30b c).mp c2; omega)]
                exact Or.inr (Or.inr (Or.inr (Or.inl ⟨e28, e22, e24, c2, rfl⟩)))
              · rw [if_neg (fun z => c2 ((h30b c).mpr (by omega)))]
                exact Or.inr (Or.inr (Or.inr (Or.inr (Or.inl ⟨e28, e22, e24, by omega, c, rfl⟩))))
            · rw [if_neg (by omega : ¬ w = -1)]
              have d6 := (h10a (by omega)).1
              by_cases c2 : x30 = 1
              · rw [if_pos (by have := (h30c c).mp c2; omega)]
                exact Or.inr (Or.inr (Or.inr (Or.inl ⟨e28, e22, e24, c2, rfl⟩)))
              · rw [if_neg (fun z => c2 ((h30c c).mpr (by omega)))]
                exact Or.inr (Or.inr (Or.inr (Or.inr (Or.inr ⟨e28, e22, e24, by omega, c, rfl⟩))))
          · rw [if_pos co]
            exact Or.inr (Or.inr (Or.inl ⟨e28, e22, e24, rfl⟩))
        · rw [if_pos cn]
          exact Or.inr (Or.inl ⟨e28, e22, rfl⟩)
      · rw [if_pos (hbad c5)]
        exact Or.inl ⟨e28, rfl⟩
      · rw [if_neg (hgood c5), if_pos cp]
        exact Or.inl ⟨e28, rfl⟩
    rcases hE with ⟨e28, hE⟩ | ⟨e28, e22, hE⟩ | ⟨e28, e22, e24, hE⟩ | ⟨e28, e22, e24, e30, hE⟩ | ⟨e28, e22, e24, e30, cw, hE⟩ | ⟨e28, e22, e24, e30, cw, hE⟩ <;> rw [hE] at ht hX1
    · refine jL_s (fun x34 => x34 = t) (fun j hj => ?_) (fun x34 h34 => ?_)
      · rw [if_neg (by omega)]; exact hj _ ht.symm
      rw [if_pos h34.symm, if_pos (by rw [ht]; dsimp only; decide)]
      exact K _ _ hX1 aStep.same
    · refine jL_s (fun x34 => x34 = t) (fun j hj => ?_) (fun x34 h34 => ?_)
      · rw [if_pos e28, if_neg (by omega)]; exact hj _ ht.symm
      rw [if_pos h34.symm, if_pos (by rw [ht]; dsimp only; decide)]
      exact K _ _ hX1 aStep.same
    · refine jL_s (fun x34 => x34 = t) (fun j hj => ?_) (fun x34 h34 => ?_)
      · rw [if_pos e28, if_pos e22, if_neg (by omega)]; exact hj _ ht.symm
      rw [if_pos h34.symm, if_pos (by rw [ht]; dsimp only; decide)]
      exact K _ _ hX1 aStep.same
    · refine jL_s (fun x34 => x34 = t) (fun j hj => ?_) (fun x34 h34 => ?_)
      · rw [if_pos e28, if_pos e22, if_pos e24, if_neg (by omega)]; exact hj _ ht.symm
      rw [if_pos h34.symm, if_pos (by rw [ht]; dsimp only; decide)]
      exact K _ _ hX1 aStep.same
    · have c5 : x5 = 0 := by omega
      obtain ⟨d1, d2, d3, d4⟩ := hok c5
      have d5 := h7a c5
      have ht : t = fL L + 1 := ht
      have cp : v ≤ fL L := by omega
      have eF : sF (aNow (aDo a (setF (aNow a) id f (fInsV L v x)))) id f = fInsV L v x := setF_at
      have eI : id ∈ sI (aNow (aDo a (setF (aNow a) id f (fInsV L v x)))) := d1
      have g1 := fL_insV (x := x) v0 cp
      have g2 := fV_insV (x := x) v0 cp
      have g3 : fS (fInsV L v x) v = 1 := by unfold fS; rw [g2]; rfl
      have g4 : fN (fInsV L v x) v 0 = x := by unfold fN; rw [g2]; rfl
      refine jL_s (fun x34 => x34 = t) (fun j hj => ?_) (fun x34 h34 => ?_)
      · rw [if_pos e28, if_pos e22, if_pos e24, if_pos e30, if_pos cw, jW_id (by omega)]; exact hj _ (by omega)
      rw [if_pos h34.symm, if_neg (by omega)]
      refine jL_s (fun x36 => x36 = 0) (fun j hj => ?_) (fun x36 h36 => ?_)
      · rw [if_pos cw]; exact hj _ rfl
      have h36 : x36 = 0 := h36
      subst h36
      refine v_get hN hX1 (fun q hq => ?_)
      rw [get_in eI d2 (by rw [eF]; omega) (by rw [eF]; omega), eF, g4] at hq
      rw [if_pos hq]
      refine v_values hN hX1 (fun q hq => ?_)
      rw [values_in eI d2, eF, g1] at hq
      refine jL_s (fun x40 => x40 = 1) (fun j hj => ?_) (fun x40 h40 => ?_)
      · rw [if_pos cw]; exact hj _ rfl
      have h40 : x40 = 1 := h40
      rw [jW_id (by omega), if_pos (by omega)]
      refine v_subvalues hN hX1 (fun q hq => ?_)
      rw [subvalues_in eI d2 (by rw [eF]; omega), eF, g3] at hq
      rw [if_pos cw, if_pos hq]
      exact K _ _ hX1 aStep.done
    · have c5 : x5 = 0 := by omega
      obtain ⟨d1, d2, d3, d4⟩ := hok c5
      have d5 := h7a c5
      have ht : t = fS L v + 1 := ht
      have cp : v < fL L := by omega
      have d6 := (h10a (by omega)).1
      have eF : sF (aNow (aDo a (setF (aNow a) id f (fInsS L v w x)))) id f = fInsS L v w x := setF_at
      have eI : id ∈ sI (aNow (aDo a (setF (aNow a) id f (fInsS L v w x)))) := d1
      have g1 : fL (fInsS L v w x) = fL L := fL_set
      obtain ⟨g3, g4⟩ := fS_insS (x := x) v0 cp (by omega : 0 ≤ w) (by omega : w ≤ fS L v)
      refine jL_s (fun x34 => x34 = t) (fun j hj => ?_) (fun x34 h34 => ?_)
      · rw [if_pos e28, if_pos e22, if_pos e24, if_pos e30, if_neg cw, jW_id (by omega)]; exact hj _ (by omega)
      rw [if_pos h34.symm, if_neg (by omega)]
      refine jL_s (fun x36 => x36 = w) (fun j hj => ?_) (fun x36 h36 => ?_)
      · rw [if_neg cw]; exact hj _ rfl
      have h36 : x36 = w := h36
      subst h36
      refine v_get hN hX1 (fun q hq => ?_)
      rw [get_in eI d2 (by rw [eF]; omega) (by rw [eF]; omega), eF, g4] at hq
      rw [if_pos hq]
      refine v_values hN hX1 (fun q hq => ?_)
      rw [values_in eI d2, eF, g1] at hq
      refine jL_s (fun x40 => x40 = 0) (fun j hj => ?_) (fun x40 h40 => ?_)
      · rw [if_neg cw]; exact hj _ rfl
      have h40 : x40 = 0 := h40
      rw [jW_id (by omega), if_pos (by omega)]
      refine v_subvalues hN hX1 (fun q hq => ?_)
      rw [subvalues_in eI d2 (by rw [eF]; omega), eF, g3] at hq
      rw [if_neg cw, jW_id (by omega), if_pos (by omega)]
      exact K _ _ hX1 aStep.done
  · rw [if_neg (by omega), if_pos hh]
    refine v_change hN hX (fun t M1 ht hX1 => ?_)
    have hE : (x26 = -1000001 ∧ a_change a u id f v w x = (-1000001, a)) ∨ ((v < x7 ∧ 0 ≤ w ∧ w < x10) ∧ x22 = 1 ∧ a_change a u id f v w x = (-1000002, a)) ∨ ((v < x7 ∧ 0 ≤ w ∧ w < x10) ∧ x22 = 0 ∧ x24 = 1 ∧ a_change a u id f v w x = (-1000006, a)) ∨ ((v < x7 ∧ 0 ≤ w ∧ w < x10) ∧ x22 = 0 ∧ x24 = 0 ∧ a_change a u id f v w x = (fN L v w, aDo a (setF (aNow a) id f (fChg L v w x)))) := by
      unfold a_change
      rw [hL]
      rcases h50 with c5 | c5
      · rw [if_neg (hgood c5)]
        have d5 := h7a c5
        rcases h26 with ⟨cp, -⟩ | ⟨cp, e26⟩
        · have d6 := (h10a cp.1).1
          rw [if_neg (not_not_intro ⟨⟨v0, by omega⟩, by omega, by omega⟩)]
          rcases h22 with ⟨e22, cn⟩ | ⟨e22, cn⟩
          · rw [if_neg (not_not_intro cn)]
            rcases h24 with ⟨e24, co⟩ | ⟨e24, -, co⟩
            · rw [if_neg (not_not_intro (co c5))]
              exact Or.inr (Or.inr (Or.inr ⟨cp, e22, e24, rfl⟩))
            · rw [if_pos co]
              exact Or.inr (Or.inr (Or.inl ⟨cp, e22, e24, rfl⟩))
          · rw [if_pos cn]
            exact Or.inr (Or.inl ⟨cp, e22, rfl⟩)
        · rw [if_pos ?_]
          · exact Or.inl ⟨e26, rfl⟩
          · intro z
            have d6 := (h10a (by omega)).1
            exact cp ⟨by omega, by omega, by omega⟩
      · rw [if_pos (hbad c5)]
        have := h7b c5
        rcases h26 with ⟨cp, -⟩ | ⟨cp, e26⟩
        · omega
        · exact Or.inl ⟨e26, rfl⟩
    have hget : (v < x7 ∧ 0 ≤ w ∧ w < x10) → x5 = 0 ∧ id ∈ sI (aNow a) ∧ sFld f ∧ v < fL L ∧ w < fS L v ∧ x26 = fN L v w ∧ ¬ x26 = -1000001 := by
      intro cp
      have c5 : x5 = 0 := by omega
      obtain ⟨d1, d2, d3, d4⟩ := hok c5
      have d5 := h7a c5
      have d6 := (h10a cp.1).1
      rcases h26 with ⟨-, e, e1, e2⟩ | ⟨z, -⟩
      · exact ⟨c5, d1, d2, by omega, by omega, e, by omega⟩
      · exact absurd cp z
    rcases hE with ⟨e26, hE⟩ | ⟨cp, e22, hE⟩ | ⟨cp, e22, e24, hE⟩ | ⟨cp, e22, e24, hE⟩ <;> rw [hE] at ht hX1
    · refine jL_s (fun x45 => x45 = t) (fun j hj => ?_) (fun x45 h45 => ?_)
      · rw [if_pos e26]; exact hj _ ht.symm
      rw [if_pos h45.symm, if_pos e26]
      exact K _ _ hX1 aStep.same
    · obtain ⟨c5, d1, d2, d3, d4, d5, d6⟩ := hget cp
      refine jL_s (fun x45 => x45 = t) (fun j hj => ?_) (fun x45 h45 => ?_)
      · rw [if_neg d6, if_neg (by omega)]; exact hj _ ht.symm
      rw [if_pos h45.symm, if_neg d6]
      refine v_get hN hX1 (fun q hq => ?_)
      rw [get_in d1 d2 (by show 0 ≤ v ∧ v < fL (sF (aNow a) id f); rw [hL]; omega) (by show 0 ≤ w ∧ w < fS (sF (aNow a) id f) v; rw [hL]; omega), hL] at hq
      rw [if_neg (by omega), if_pos (by omega)]
      exact K _ _ hX1 aStep.same
    · obtain ⟨c5, d1, d2, d3, d4, d5, d6⟩ := hget cp
      refine jL_s (fun x45 => x45 = t) (fun j hj => ?_) (fun x45 h45 => ?_)
      · rw [if_neg d6, if_pos e22, if_neg (by omega)]; exact hj _ ht.symm
      rw [if_pos h45.symm, if_neg d6]
      refine v_get hN hX1 (fun q hq => ?_)
      rw [get_in d1 d2 (by show 0 ≤ v ∧ v < fL (sF (aNow a) id f); rw [hL]; omega) (by show 0 ≤ w ∧ w < fS (sF (aNow a) id f) v; rw [hL]; omega), hL] at hq
      rw [if_pos e22, if_neg (by omega), if_pos (by omega)]
      exact K _ _ hX1 aStep.same
    · obtain ⟨c5, d1, d2, d3, d4, d5, d6⟩ := hget cp
      have eF : sF (aNow (aDo a (setF (aNow a) id f (fChg L v w x)))) id f = fChg L v w x := setF_at
      have eI : id ∈ sI (aNow (aDo a (setF (aNow a) id f (fChg L v w x)))) := d1
      have g1 : fL (fChg L v w x) = fL L := fL_set
      obtain ⟨g3, g4⟩ := fS_chg (x := x) v0 d3 (by omega : 0 ≤ w) d4
      refine jL_s (fun x45 => x45 = t) (fun j hj => ?_) (fun x45 h45 => ?_)
      · rw [if_neg d6, if_pos e22, if_pos e24]; exact hj _ (by rw [ht]; exact d5)
      rw [if_pos h45.symm, if_neg d6]
      refine v_get hN hX1 (fun q hq => ?_)
      rw [get_in eI d2 (by rw [eF]; omega) (by rw [eF]; omega), eF, g4] at hq
      rw [if_pos e22, if_pos e24, if_pos hq]
      exact K _ _ hX1 aStep.done
  · rw [if_neg (by omega), if_neg (by omega)]
    refine jL_s (fun x48 => (x48 = 0 ∧ x5 = 0 ∧ v < x7 ∧ (w = -1 ∨ (0 ≤ w ∧ w < x10))) ∨ (x48 = 1 ∧ (x5 = 1 ∨ (x5 = 0 ∧ ¬ (v < x7 ∧ (w = -1 ∨ (0 ≤ w ∧ w < x10))))))) (fun j hj => ?_) (fun x48 h48 => ?_)
    · by_cases c5 : x5 = 0
      · rw [if_pos c5]
        by_cases c : v < x7
        · rw [if_pos c]
          by_cases c2 : w < 0
          · rw [if_pos c2]; exact hj _ (Or.inl ⟨rfl, c5, c, Or.inl (by omega)⟩)
          · rw [if_neg c2]
            by_cases c3 : x26 = -1000001
            · rw [if_pos c3]
              refine hj _ (Or.inr ⟨rfl, Or.inr ⟨c5, fun z => ?_⟩⟩)
              rcases h26 with ⟨cp, e, e1, e2⟩ | ⟨cp, e⟩
              · omega
              · exact cp ⟨c, by omega, by omega⟩
            · rw [if_neg c3]
              refine hj _ (Or.inl ⟨rfl, c5, c, Or.inr ?_⟩)
              rcases h26 with ⟨cp, e, e1, e2⟩ | ⟨cp, e⟩
              · exact ⟨cp.2.1, cp.2.2⟩
              · exact absurd e c3
        · rw [if_neg c]; exact hj _ (Or.inr ⟨rfl, Or.inr ⟨c5, fun z => c z.1⟩⟩)
      · rw [if_neg c5]; exact hj _ (Or.inr ⟨rfl, Or.inl (by omega)⟩)
    refine jL_s (fun x50 => (x50 = 1 ∧ (w < 0 ∨ x10 = 1)) ∨ (x50 = 0 ∧ ¬ (w < 0 ∨ x10 = 1))) (fun j hj => ?_) (fun x50 h50' => ?_)
    · by_cases c : w < 0
      · rw [if_pos c]; exact hj _ (Or.inl ⟨rfl, Or.inl c⟩)
      · rw [if_neg c]
        by_cases c2 : x10 = 1
        · rw [if_pos c2]; exact hj _ (Or.inl ⟨rfl, Or.inr c2⟩)
        · rw [if_neg c2]; exact hj _ (Or.inr ⟨rfl, by omega⟩)
    refine v_remove hN hX (fun t M1 ht hX1 => ?_)
    have hE : (x48 = 1 ∧ a_remove a u id f v w = (-1000001, a)) ∨ (x48 = 0 ∧ x24 = 1 ∧ a_remove a u id f v w = (-1000006, a)) ∨ (x48 = 0 ∧ x24 = 0 ∧ x50 = 1 ∧ a_remove a u id f v w = (fL L - 1, aDo a (setF (aNow a) id f (fDelV L v)))) ∨ (x48 = 0 ∧ x24 = 0 ∧ x50 = 0 ∧ (0 ≤ w ∧ w < x10) ∧ a_remove a u id f v w = (fL L, aDo a (setF (aNow a) id f (fDelS L v w)))) := by
      unfold a_remove
      rw [hL]
      rcases h48 with ⟨e48, c5, cv, cp⟩ | ⟨e48, c5 | ⟨c5, cp⟩⟩
      · rw [if_neg (hgood c5)]
        have d5 := h7a c5
        have d6 := (h10a cv).1
        rw [if_neg (not_not_intro ⟨⟨v0, by omega⟩, by omega⟩)]
        rcases h24 with ⟨e24, co⟩ | ⟨e24, -, co⟩
        · rw [if_neg (not_not_intro (co c5))]
          rcases h50' with ⟨e50, c⟩ | ⟨e50, c⟩
          · rw [if_pos (by omega)]
            exact Or.inr (Or.inr (Or.inl ⟨e48, e24, e50, rfl⟩))
          · rw [if_neg (by omega)]
            exact Or.inr (Or.inr (Or.inr ⟨e48, e24, e50, by omega, rfl⟩))
        · rw [if_pos co]
          exact Or.inr (Or.inl ⟨e48, e24, rfl⟩)
      · rw [if_pos (hbad c5)]
        exact Or.inl ⟨e48, rfl⟩
      · rw [if_neg (hgood c5), if_pos ?_]
        · exact Or.inl ⟨e48, rfl⟩
        · intro z
          have d5 := h7a c5
          have d6 := (h10a (by omega)).1
          exact cp ⟨by omega, by omega⟩
    have hcv : x48 = 0 → x5 = 0 ∧ v < x7 := by
      intro q
      rcases h48 with ⟨-, c5, cv, -⟩ | ⟨e, -⟩
      · exact ⟨c5, cv⟩
      · omega
    rcases hE with ⟨e48, hE⟩ | ⟨e48, e24, hE⟩ | ⟨e48, e24, e50, hE⟩ | ⟨e48, e24, e50, cw, hE⟩ <;> rw [hE] at ht hX1
    · refine jL_s (fun x54 => x54 = t) (fun j hj => ?_) (fun x54 h54 => ?_)
      · rw [if_neg (by omega)]; exact hj _ ht.symm
      rw [if_pos h54.symm, if_pos (by rw [ht]; dsimp only; decide)]
      exact K _ _ hX1 aStep.same
    · refine jL_s (fun x54 => x54 = t) (fun j hj => ?_) (fun x54 h54 => ?_)
      · rw [if_pos e48, if_neg (by omega)]; exact hj _ ht.symm
      rw [if_pos h54.symm, if_pos (by rw [ht]; dsimp only; decide)]
      exact K _ _ hX1 aStep.same
    · obtain ⟨c5, cv⟩ := hcv e48
      obtain ⟨d1, d2, d3, d4⟩ := hok c5
      have d5 := h7a c5
      have ht : t = fL L - 1 := ht
      have eF : sF (aNow (aDo a (setF (aNow a) id f (fDelV L v)))) id f = fDelV L v := setF_at
      have eI : id ∈ sI (aNow (aDo a (setF (aNow a) id f (fDelV L v)))) := d1
      have g1 := len_delV v0 (by omega : v < fL L)
      refine jL_s (fun x54 => x54 = t) (fun j hj => ?_) (fun x54 h54 => ?_)
      · rw [if_pos e48, if_pos e24, if_neg (by omega), jW_id (by omega)]; exact hj _ (by omega)
      rw [if_pos h54.symm, if_neg (by omega)]
      refine v_values hN hX1 (fun q hq => ?_)
      rw [values_in eI d2, eF, g1] at hq
      rw [if_pos (by omega), if_neg (by omega)]
      exact K _ _ hX1 aStep.done
    · obtain ⟨c5, cv⟩ := hcv e48
      obtain ⟨d1, d2, d3, d4⟩ := hok c5
      have d5 := h7a c5
      have d6 := (h10a cv).1
      have ht : t = fL L := ht
      have eF : sF (aNow (aDo a (setF (aNow a) id f (fDelS L v w)))) id f = fDelS L v w := setF_at
      have eI : id ∈ sI (aNow (aDo a (setF (aNow a) id f (fDelS L v w)))) := d1
      have g1 : fL (fDelS L v w) = fL L := fL_set
      have g3 := fS_delS v0 (by omega : v < fL L) cw.1 (by omega : w < fS L v)
      refine jL_s (fun x54 => x54 = t) (fun j hj => ?_) (fun x54 h54 => ?_)
      · rw [if_pos e48, if_pos e24, if_pos e50, jW_id (by omega)]; exact hj _ (by omega)
      rw [if_pos h54.symm, if_neg (by omega)]
      refine v_values hN hX1 (fun q hq => ?_)
      rw [values_in eI d2, eF, g1] at hq
      rw [if_pos (by omega), if_pos e50]
      refine v_subvalues hN hX1 (fun q hq => ?_)
      rw [subvalues_in eI d2 (by rw [eF]; omega), eF, g3] at hq
      rw [jW_id (by omega), if_pos (by omega)]
      exact K _ _ hX1 aStep.done
