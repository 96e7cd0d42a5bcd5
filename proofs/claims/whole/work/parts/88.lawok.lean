/-! THE LAW'S LOOP: both sides hold one abstract state, so every answer is the same -/
theorem XR.keep {M M' : jM} {a : aA} (h : XR M a) (e : frM M M') : XR M' a := h.wk (fun c hc => e c (by omega))
theorem MR.keep {M M' : jM} {a : aA} (h : MR M a) (e : frX M M') : MR M' a :=
  h.set (by rw [e 252 (by omega)]) (by rw [e 252 (by omega)]) (by rw [e 252 (by omega)]) (e 255 (by omega)) (e 256 (by omega)) (e 257 (by omega)) (h.now.same (e 253 (by omega)))
theorem nan_dec {x : UInt64} (h : isNaN64 x = true) : FP.Core.decode FP.Core.b64 x.toNat = .nan := by
  rw [isNaN64_iff, show (0x7fffffffffffffff : Nat) = 2 ^ 63 - 1 from by decide, Nat.and_two_pow_sub_one_eq_mod] at h
  unfold FP.Core.decode FP.Core.fieldE FP.Core.fieldT
  rw [show FP.Core.b64.tails = 4503599627370496 from by decide, show FP.Core.b64.exps = 2048 from by decide]
  rw [if_pos (by omega), if_neg (by omega)]
theorem nan_dec32 {x : UInt32} (h : isNaN32 x = true) : FP.Core.decode FP.Core.b32 x.toNat = .nan := by
  rw [isNaN32_iff, show (0x7fffffff : Nat) = 2 ^ 31 - 1 from by decide, Nat.and_two_pow_sub_one_eq_mod] at h
  unfold FP.Core.decode FP.Core.fieldE FP.Core.fieldT
  rw [show FP.Core.b32.tails = 8388608 from by decide, show FP.Core.b32.exps = 256 from by decide]
  rw [if_pos (by omega), if_neg (by omega)]
theorem jCmp_nan {x y : UInt64} (h : isNaN64 x = true ∨ isNaN64 y = true) : jCmp x y ≠ 0 := by
  have e : FP.dcmp x y = none := by
    show FP.Core.order (FP.Core.decode FP.Core.b64 x.toNat) (FP.Core.decode FP.Core.b64 y.toNat) = none
    rcases h with h | h
    · rw [nan_dec h]
      cases FP.Core.decode FP.Core.b64 y.toNat <;> rfl
    · rw [nan_dec h]
      cases FP.Core.decode FP.Core.b64 x.toNat <;> rfl
  unfold jCmp
  rw [e]
  decide
theorem f2d_isnan {f : UInt32} (h : isNaN32 f = true) : isNaN64 (FP.f2d f) = true := by
  have e : FP.Core.fIsNaN f = true := by
    show decide (FP.Core.decode FP.Core.b32 f.toNat = .nan) = true
    rw [nan_dec32 h]
    decide
  unfold FP.f2d
  rw [if_pos e]
  unfold FP.nanF2D
  exact isNaN64_or_left (isNaN64_or_right (by decide))
theorem alike64_or {x y : UInt64} (h : alike64 x y = true) : x = y ∨ (isNaN64 x = true ∧ isNaN64 y = true) := by
  unfold alike64 at h
  simpa using h
theorem alike32_or {x y : UInt32} (h : alike32 x y = true) : x = y ∨ (isNaN32 x = true ∧ isNaN32 y = true) := by
  unfold alike32 at h
  simpa using h
theorem mean_ok {f g q : UInt32} (hf : alike32 f q = true) (hg : alike32 g q = true) {x y : UInt64} (hx : alike64 x (FP.f2d f) = true) (hy : alike64 y (FP.f2d g) = true) {P : Prop} (hP : P) : (if (jCmp x y) = 0 then P else (if (jCmp x x) = 0 then False else (if (jCmp y y) = 0 then False else P))) := by
  have key : x = y ∨ (isNaN64 x = true ∧ isNaN64 y = true) := by
    have hfg : f = g ∨ (isNaN32 f = true ∧ isNaN32 g = true) := by
      rcases alike32_or hf with a | a
      · rcases alike32_or hg with b | b
        · exact Or.inl (by rw [a, b])
        · exact Or.inr ⟨by rw [a]; exact b.2, b.1⟩
      · rcases alike32_or hg with b | b
        · exact Or.inr ⟨a.1, by rw [b]; exact a.2⟩
        · exact Or.inr ⟨a.1, b.1⟩
    rcases hfg with e | ⟨e1, e2⟩
    · subst e
      rcases alike64_or hx with a | a
      · rcases alike64_or hy with b | b
        · exact Or.inl (by rw [a, b])
        · exact Or.inr ⟨by rw [a]; exact b.2, b.1⟩
      · rcases alike64_or hy with b | b
        · exact Or.inr ⟨a.1, by rw [b]; exact a.2⟩
        · exact Or.inr ⟨a.1, b.1⟩
    · refine Or.inr ⟨?_, ?_⟩
      · rcases alike64_or hx with a | a
        · rw [a]; exact f2d_isnan e1
        · exact a.1
      · rcases alike64_or hy with b | b
        · rw [b]; exact f2d_isnan e2
        · exact b.1
  rcases key with e | ⟨e1, e2⟩
  · subst e
    by_cases z : jCmp x x = 0
    · rw [if_pos z]
      exact hP
    · rw [if_neg z, if_neg z, if_neg z]
      exact hP
  · rw [if_neg (jCmp_nan (Or.inl e1)), if_neg (jCmp_nan (Or.inl e1)), if_neg (jCmp_nan (Or.inl e2))]
    exact hP
/-- the floats that mean may answer -/
def mRel (s : aS) (c : Int) (f : UInt32) : Prop := if ¬ sCol c then f = 3388220416 else if (allX s c).length = 0 then f = FP.fconst0 else alike32 f (FP.fdiv (FP.i2f (jI (sumL s c (-1)))) (FP.i2f (jI ((allX s c).length : Int)))) = true
theorem meanP.of {s : aS} {c : Int} {k : UInt32 → Prop} (h : ∀ f, mRel s c f → k f) : meanP s c k := by
  unfold meanP
  unfold mRel at h
  by_cases h1 : ¬ sCol c
  · rw [if_pos h1]
    exact h _ (by rw [if_pos h1])
  · rw [if_neg h1]
    by_cases h2 : (allX s c).length = 0
    · rw [if_pos h2]
      exact h _ (by rw [if_neg h1, if_pos h2])
    · rw [if_neg h2]
      exact fun f hf => h f (by rw [if_neg h1, if_neg h2]; exact hf)
theorem mRel.both {s : aS} {c : Int} {f g : UInt32} (hf : mRel s c f) (hg : mRel s c g) : ∃ q, alike32 f q = true ∧ alike32 g q = true := by
  unfold mRel at hf hg
  by_cases h1 : ¬ sCol c
  · rw [if_pos h1] at hf hg
    exact ⟨g, by rw [hf, hg]; exact alike32_refl _, alike32_refl _⟩
  · rw [if_neg h1] at hf hg
    by_cases h2 : (allX s c).length = 0
    · rw [if_pos h2] at hf hg
      exact ⟨g, by rw [hf, hg]; exact alike32_refl _, alike32_refl _⟩
    · rw [if_neg h2] at hf hg
      exact ⟨_, hf, hg⟩
theorem law_ok {X : Int → Int} {L : Int} {N : Nat} (hN : 5000 ≤ N) (hL : 0 ≤ L ∧ L ≤ 3584) : ∀ (d n : Nat) (x1 : Int) (M : jM) (a : aA), d < n → L - x1 ≤ d → 0 ≤ x1 → x1 ≤ 3600 → XR M a → MR M a → lp_L_law_18 X L N (fun (M3 : jM) => True) n x1 M := by
  intro d
  induction d with
  | zero =>
    intro n x1 M a hn hd h0 h9 hX hM
    obtain ⟨n, rfl⟩ : ∃ m, n = m + 1 := ⟨n - 1, by omega⟩
    have e7 : jW (L - 7) = L - 7 := jW_id (by omega)
    rw [lp_L_law_18, if_neg (by omega)]
    trivial
  | succ d ih =>
    intro n x1 M a hn hd h0 h9 hX hM
    obtain ⟨n, rfl⟩ : ∃ m, n = m + 1 := ⟨n - 1, by omega⟩
    have e7 : jW (L - 7) = L - 7 := jW_id (by omega)
    rw [lp_L_law_18]
    by_cases hgo : x1 ≤ jW (L - 7)
    · rw [if_pos hgo]
      have hN2 : 200 ≤ N := by omega
      have hN3 : 250 ≤ N := by omega
      have nxt : ∀ (M' : jM) (a' : aA), XR M' a' → MR M' a' → lp_L_law_18 X L N (fun (M3 : jM) => True) n (jW (x1 + 7)) M' := fun M' a' hX' hM' => by
        rw [jW_id (by omega)]
        exact ih n (x1 + 7) M' a' (by omega) (by omega) (by omega) (by omega) hX' hM'
      generalize hkx : (fun (M3 : jM) => True) = kx at nxt ⊢
      have j1 : jB (jW (x1 + 1)) L := by rw [jW_id (by omega)]; exact ⟨by omega, by omega⟩
      have j2 : jB (jW (x1 + 2)) L := by rw [jW_id (by omega)]; exact ⟨by omega, by omega⟩
      have j3 : jB (jW (x1 + 3)) L := by rw [jW_id (by omega)]; exact ⟨by omega, by omega⟩
      have j4 : jB (jW (x1 + 4)) L := by rw [jW_id (by omega)]; exact ⟨by omega, by omega⟩
      have j5 : jB (jW (x1 + 5)) L := by rw [jW_id (by omega)]; exact ⟨by omega, by omega⟩
      have j6 : jB (jW (x1 + 6)) L := by rw [jW_id (by omega)]; exact ⟨by omega, by omega⟩
      refine ⟨by omega, ?_⟩
      by_cases h0 : jAnd (X x1) 63 = 0
      · rw [if_pos h0]
        refine ⟨j1, xs_create hN2 hX (fun M1 f1 hX1 => ⟨j1, ?_⟩)⟩
        refine ms_create hN (hM.keep f1) (fun M2 f2 hM2 => ?_)
        rw [if_pos rfl]
        exact nxt M2 _ (hX1.keep f2) hM2
      rw [if_neg h0]
      by_cases h1 : jAnd (X x1) 63 = 1
      · rw [if_pos h1]
        refine ⟨j1, j2, xs_delete hN2 hX (fun M1 f1 hX1 => ⟨j1, j2, ?_⟩)⟩
        refine ms_delete hN (hM.keep f1) (fun M2 f2 hM2 => ?_)
        rw [if_pos rfl]
        exact nxt M2 _ (hX1.keep f2) hM2
      rw [if_neg h1]
      by_cases h2 : jAnd (X x1) 63 = 2
      · rw [if_pos h2]
        refine ⟨j1, j2, xs_lock hN2 hX (fun M1 f1 hX1 => ⟨j1, j2, ?_⟩)⟩
        refine ms_lock hN (hM.keep f1) (fun M2 f2 hM2 => ?_)
        rw [if_pos rfl]
        exact nxt M2 _ (hX1.keep f2) hM2
      rw [if_neg h2]
      by_cases h3 : jAnd (X x1) 63 = 3
      · rw [if_pos h3]
        refine ⟨j1, j2, xs_unlock hN2 hX (fun M1 f1 hX1 => ⟨j1, j2, ?_⟩)⟩
        refine ms_unlock hN (hM.keep f1) (fun M2 f2 hM2 => ?_)
        rw [if_pos rfl]
        exact nxt M2 _ (hX1.keep f2) hM2
      rw [if_neg h3]
      by_cases h4 : jAnd (X x1) 63 = 4
      · rw [if_pos h4]
        refine ⟨j1, j2, j3, j4, j5, j6, xs_insert hN2 hX (fun M1 f1 hX1 => ⟨j1, j2, j3, j4, j5, j6, ?_⟩)⟩
        refine ms_insert hN (hM.keep f1) (fun M2 f2 hM2 => ?_)
        rw [if_pos rfl]
        exact nxt M2 _ (hX1.keep f2) hM2
      rw [if_neg h4]
      by_cases h5 : jAnd (X x1) 63 = 5
      · rw [if_pos h5]
        refine ⟨j1, j2, j3, j4, j5, j6, xs_change hN2 hX (fun M1 f1 hX1 => ⟨j1, j2, j3, j4, j5, j6, ?_⟩)⟩
        refine ms_change hN (hM.keep f1) (fun M2 f2 hM2 => ?_)
        rw [if_pos rfl]
        exact nxt M2 _ (hX1.keep f2) hM2
      rw [if_neg h5]
      by_cases h6 : jAnd (X x1) 63 = 6
      · rw [if_pos h6]
        refine ⟨j1, j2, j3, j4, j5, xs_remove hN2 hX (fun M1 f1 hX1 => ⟨j1, j2, j3, j4, j5, ?_⟩)⟩
        refine ms_remove hN (hM.keep f1) (fun M2 f2 hM2 => ?_)
        rw [if_pos rfl]
        exact nxt M2 _ (hX1.keep f2) hM2
      rw [if_neg h6]
      by_cases h7 : jAnd (X x1) 63 = 7
      · rw [if_pos h7]
        refine ⟨j1, j2, j3, xs_removeLine hN2 hX (fun M1 f1 hX1 => ⟨j1, j2, j3, ?_⟩)⟩
        refine ms_removeLine hN (hM.keep f1) (fun M2 f2 hM2 => ?_)
        rw [if_pos rfl]
        exact nxt M2 _ (hX1.keep f2) hM2
      rw [if_neg h7]
      by_cases h8 : jAnd (X x1) 63 = 8
      · rw [if_pos h8]
        refine ⟨j1, j2, xs_load hN2 hX (fun M1 f1 hX1 => ⟨j1, j2, ?_⟩)⟩
        refine ms_load hN (hM.keep f1) (fun M2 f2 hM2 => ?_)
        rw [if_pos rfl]
        exact nxt M2 _ (hX1.keep f2) hM2
      rw [if_neg h8]
      by_cases h9 : jAnd (X x1) 63 = 9
      · rw [if_pos h9]
        refine ⟨j1, j2, ?_⟩
        simp only [jL]
        by_cases hz : X (jW (x1 + 2)) = 0
        · rw [if_pos hz]
          refine xs_associate hN2 hX (Or.inl rfl) (fun M1 f1 hX1 => ⟨j1, j2, ?_⟩)
          rw [if_pos hz]
          refine ms_associate hN (hM.keep f1) (Or.inl rfl) (fun M2 f2 hM2 => ?_)
          rw [if_pos rfl]
          exact nxt M2 _ (hX1.keep f2) hM2
        · rw [if_neg hz]
          refine xs_associate hN2 hX (Or.inr rfl) (fun M1 f1 hX1 => ⟨j1, j2, ?_⟩)
          rw [if_neg hz]
          refine ms_associate hN (hM.keep f1) (Or.inr rfl) (fun M2 f2 hM2 => ?_)
          rw [if_pos rfl]
          exact nxt M2 _ (hX1.keep f2) hM2
      rw [if_neg h9]
      by_cases h10 : jAnd (X x1) 63 = 10
      · rw [if_pos h10]
        refine ⟨j1, j2, j3, j4, xs_define hN2 hX (fun M1 f1 hX1 => ⟨j1, j2, j3, j4, ?_⟩)⟩
        refine ms_define hN (hM.keep f1) (fun M2 f2 hM2 => ?_)
        rw [if_pos rfl]
        exact nxt M2 _ (hX1.keep f2) hM2
      rw [if_neg h10]
      by_cases h11 : jAnd (X x1) 63 = 11
      · rw [if_pos h11]
        refine ⟨j1, j2, j3, j4, ?_⟩
        simp only [jL]
        by_cases hz : X (jW (x1 + 4)) = 0
        · rw [if_pos hz]
          refine ⟨j5, xs_select hN2 hX (fun M1 f1 hX1 => ⟨j1, j2, j3, j4, ?_⟩)⟩
          rw [if_pos hz]
          refine ⟨j5, ms_select hN (hM.keep f1) (fun M2 f2 hM2 => ?_)⟩
          rw [if_pos rfl]
          exact nxt M2 _ (hX1.keep f2) hM2
        · rw [if_neg hz]
          refine ⟨j5, xs_select hN2 hX (fun M1 f1 hX1 => ⟨j1, j2, j3, j4, ?_⟩)⟩
          rw [if_neg hz]
          refine ⟨j5, ms_select hN (hM.keep f1) (fun M2 f2 hM2 => ?_)⟩
          rw [if_pos rfl]
          exact nxt M2 _ (hX1.keep f2) hM2
      rw [if_neg h11]
      by_cases h12 : jAnd (X x1) 63 = 12
      · rw [if_pos h12]
        refine ⟨j1, j2, j3, j4, xs_combine hN2 hX (fun M1 f1 hX1 => ⟨j1, j2, j3, j4, ?_⟩)⟩
        refine ms_combine hN (hM.keep f1) (fun M2 f2 hM2 => ?_)
        rw [if_pos rfl]
        exact nxt M2 _ (hX1.keep f2) hM2
      rw [if_neg h12]
      by_cases h13 : jAnd (X x1) 63 = 13
      · rw [if_pos h13]
        refine ⟨j1, xs_clearList hN2 hX (fun M1 f1 hX1 => ⟨j1, ?_⟩)⟩
        refine ms_clearList hN (hM.keep f1) (fun M2 f2 hM2 => ?_)
        rw [if_pos rfl]
        exact nxt M2 _ (hX1.keep f2) hM2
      rw [if_neg h13]
      by_cases h14 : jAnd (X x1) 63 = 14
      · rw [if_pos h14]
        refine ⟨j1, xs_append hX (fun M1 f1 hX1 => ⟨j1, ?_⟩)⟩
        refine ms_append (hM.keep f1) (fun M2 f2 hM2 => ?_)
        rw [if_pos rfl]
        exact nxt M2 _ (hX1.keep f2) hM2
      rw [if_neg h14]
      by_cases h15 : jAnd (X x1) 63 = 15
      · rw [if_pos h15]
        refine xs_clearText hX (fun M1 f1 hX1 => ?_)
        refine ms_clearText (hM.keep f1) (fun M2 f2 hM2 => ?_)
        rw [if_pos rfl]
        exact nxt M2 _ (hX1.keep f2) hM2
      rw [if_neg h15]
      by_cases h16 : jAnd (X x1) 63 = 16
      · rw [if_pos h16]
        refine xs_fault hN2 hX (fun M1 f1 hX1 => ?_)
        refine ms_fault hN (hM.keep f1) (fun M2 f2 hM2 => ?_)
        rw [if_pos rfl]
        exact nxt M2 _ (hX1.keep f2) hM2
      rw [if_neg h16]
      by_cases h17 : jAnd (X x1) 63 = 17
      · rw [if_pos h17]
        refine ⟨j1, xs_print hN2 hX (fun M1 f1 hX1 => ⟨j1, ?_⟩)⟩
        refine ms_print hN (hM.keep f1) (fun M2 f2 hM2 => ?_)
        rw [if_pos rfl]
        exact nxt M2 _ (hX1.keep f2) hM2
      rw [if_neg h17]
      by_cases h18 : jAnd (X x1) 63 = 18
      · rw [if_pos h18]
        refine ⟨j1, xs_printed hX ⟨j1, ?_⟩⟩
        refine ms_printed hM ?_
        rw [if_pos rfl]
        exact nxt M a hX hM
      rw [if_neg h18]
      by_cases h19 : jAnd (X x1) 63 = 19
      · rw [if_pos h19]
        refine undo_k (by omega) hX (fun M1 f1 hX1 => ?_)
        refine msUndo_k hN (hM.keep f1) (fun M2 f2 hM2 => ?_)
        rw [if_pos rfl]
        exact nxt M2 _ (hX1.keep f2) hM2
      rw [if_neg h19]
      by_cases h20 : jAnd (X x1) 63 = 20
      · rw [if_pos h20]
        refine xs_records hX ?_
        refine ms_records hM ?_
        rw [if_pos rfl]
        exact nxt M a hX hM
      rw [if_neg h20]
      by_cases h21 : jAnd (X x1) 63 = 21
      · rw [if_pos h21]
        refine ⟨j1, xs_recordAt hX ⟨j1, ?_⟩⟩
        refine ms_recordAt hN hM ?_
        rw [if_pos rfl]
        exact nxt M a hX hM
      rw [if_neg h21]
      by_cases h22 : jAnd (X x1) 63 = 22
      · rw [if_pos h22]
        refine ⟨j1, xs_locker hN2 hX ⟨j1, ?_⟩⟩
        refine ms_locker hN hM ?_
        rw [if_pos rfl]
        exact nxt M a hX hM
      rw [if_neg h22]
      by_cases h23 : jAnd (X x1) 63 = 23
      · rw [if_pos h23]
        refine ⟨j1, j2, xs_values hN2 hX ⟨j1, j2, ?_⟩⟩
        refine ms_values hN hM ?_
        rw [if_pos rfl]
        exact nxt M a hX hM
      rw [if_neg h23]
      by_cases h24 : jAnd (X x1) 63 = 24
      · rw [if_pos h24]
        refine ⟨j1, j2, j3, xs_subvalues hN2 hX ⟨j1, j2, j3, ?_⟩⟩
        refine ms_subvalues hN hM ?_
        rw [if_pos rfl]
        exact nxt M a hX hM
      rw [if_neg h24]
      by_cases h25 : jAnd (X x1) 63 = 25
      · rw [if_pos h25]
        refine ⟨j1, j2, j3, j4, xs_get hN2 hX ⟨j1, j2, j3, j4, ?_⟩⟩
        refine ms_get hN hM ?_
        rw [if_pos rfl]
        exact nxt M a hX hM
      rw [if_neg h25]
      by_cases h26 : jAnd (X x1) 63 = 26
      · rw [if_pos h26]
        refine ⟨j1, xs_lines hN2 hX ⟨j1, ?_⟩⟩
        refine ms_lines hN hM ?_
        rw [if_pos rfl]
        exact nxt M a hX hM
      rw [if_neg h26]
      by_cases h27 : jAnd (X x1) 63 = 27
      · rw [if_pos h27]
        refine ⟨j1, j2, j3, xs_locate hN2 hX ⟨j1, j2, j3, ?_⟩⟩
        refine ms_locate hN hM ?_
        rw [if_pos rfl]
        exact nxt M a hX hM
      rw [if_neg h27]
      by_cases h28 : jAnd (X x1) 63 = 28
      · rw [if_pos h28]
        refine ⟨j1, j2, xs_column hX ⟨j1, j2, ?_⟩⟩
        refine ms_column hM ?_
        rw [if_pos rfl]
        exact nxt M a hX hM
      rw [if_neg h28]
      by_cases h29 : jAnd (X x1) 63 = 29
      · rw [if_pos h29]
        refine ⟨j1, xs_associated hX ⟨j1, ?_⟩⟩
        refine ms_associated hM ?_
        rw [if_pos rfl]
        exact nxt M a hX hM
      rw [if_neg h29]
      by_cases h30 : jAnd (X x1) 63 = 30
      · rw [if_pos h30]
        refine ⟨j1, xs_listSize hN2 hX ⟨j1, ?_⟩⟩
        refine ms_listSize hN hM ?_
        rw [if_pos rfl]
        exact nxt M a hX hM
      rw [if_neg h30]
      by_cases h31 : jAnd (X x1) 63 = 31
      · rw [if_pos h31]
        refine ⟨j1, j2, xs_listAt hN2 hX ⟨j1, j2, ?_⟩⟩
        refine ms_listAt hN hM ?_
        rw [if_pos rfl]
        exact nxt M a hX hM
      rw [if_neg h31]
      by_cases h32 : jAnd (X x1) 63 = 32
      · rw [if_pos h32]
        refine ⟨j1, j2, xs_numbers hN2 hX (fun M1 f1 hX1 => ⟨j1, j2, ?_⟩)⟩
        refine ms_numbers hN (hM.keep f1) (fun M2 f2 hM2 => ?_)
        rw [if_pos rfl]
        exact nxt M2 _ (hX1.keep f2) hM2
      rw [if_neg h32]
      by_cases h33 : jAnd (X x1) 63 = 33
      · rw [if_pos h33]
        refine ⟨j1, j2, j3, xs_numberAt hN2 hX (fun M1 f1 hX1 => ⟨j1, j2, j3, ?_⟩)⟩
        refine ms_numberAt hN (hM.keep f1) (fun M2 f2 hM2 => ?_)
        rw [if_pos rfl]
        exact nxt M2 _ (hX1.keep f2) hM2
      rw [if_neg h33]
      by_cases h34 : jAnd (X x1) 63 = 34
      · rw [if_pos h34]
        refine ⟨j1, xs_exploded hN2 hX (fun M1 f1 hX1 => ⟨j1, ?_⟩)⟩
        refine ms_exploded hN (hM.keep f1) (fun M2 f2 hM2 => ?_)
        rw [if_pos rfl]
        exact nxt M2 _ (hX1.keep f2) hM2
      rw [if_neg h34]
      by_cases h35 : jAnd (X x1) 63 = 35
      · rw [if_pos h35]
        refine ⟨j1, j2, ?_⟩
        simp only [jL]
        by_cases hz : X (jW (x1 + 2)) = 0
        · rw [if_pos hz]
          refine ⟨j3, j4, xs_explodedAt hN3 hX (fun M1 f1 hX1 => ⟨j1, j2, ?_⟩)⟩
          rw [if_pos hz]
          refine ⟨j3, j4, ms_explodedAt hN (hM.keep f1) (fun M2 f2 hM2 => ?_)⟩
          rw [if_pos rfl]
          exact nxt M2 _ (hX1.keep f2) hM2
        · rw [if_neg hz]
          refine ⟨j3, j4, xs_explodedAt hN3 hX (fun M1 f1 hX1 => ⟨j1, j2, ?_⟩)⟩
          rw [if_neg hz]
          refine ⟨j3, j4, ms_explodedAt hN (hM.keep f1) (fun M2 f2 hM2 => ?_)⟩
          rw [if_pos rfl]
          exact nxt M2 _ (hX1.keep f2) hM2
      rw [if_neg h35]
      by_cases h36 : jAnd (X x1) 63 = 36
      · rw [if_pos h36]
        refine ⟨j1, j2, xs_total hN2 hX (fun M1 f1 hX1 => ⟨j1, j2, ?_⟩)⟩
        refine ms_total hN (hM.keep f1) (fun M2 f2 hM2 => ?_)
        rw [if_pos rfl]
        exact nxt M2 _ (hX1.keep f2) hM2
      rw [if_neg h36]
      by_cases h37 : jAnd (X x1) 63 = 37
      · rw [if_pos h37]
        refine ⟨j1, xs_mean hN2 hX (fun M1 f1 hX1 => meanP.of (fun f hf x hx => ⟨j1, ms_mean hN (hM.keep f1) (fun M2 f2 hM2 => meanP.of (fun g hg y hy => ?_))⟩))⟩
        obtain ⟨q, hq1, hq2⟩ := hf.both hg
        exact mean_ok hq1 hq2 hx hy (nxt M2 a (hX1.keep f2) hM2)
      rw [if_neg h37]
      by_cases h38 : jAnd (X x1) 63 = 38
      · rw [if_pos h38]
        refine ⟨j1, xs_repeated hN3 hX (fun M1 f1 hX1 => ⟨j1, ?_⟩)⟩
        refine ms_repeated hN (hM.keep f1) (fun M2 f2 hM2 => ?_)
        rw [if_pos rfl]
        exact nxt M2 _ (hX1.keep f2) hM2
      rw [if_neg h38]
      exact nxt M a hX hM
    · rw [if_neg hgo]
      trivial
