/-! look: its answer hangs on the state alone -/
abbrev aOf (s : aS) : aA := (s, [], [], [])
theorem values_le {a : aA} (h : aOK (aNow a)) (id f : Int) : a_values a id f ≤ 5 := by
  unfold a_values
  by_cases c : id ∉ sI (aNow a) ∨ ¬ sFld f
  · rw [if_pos c]; omega
  · rw [if_neg c]
    exact (fL_ok ((h.2 id (Decidable.byContradiction fun q => c (Or.inl q))).2.2 f (Decidable.byContradiction fun q => c (Or.inr q)))).2
theorem subvalues_le {a : aA} (h : aOK (aNow a)) (id f v : Int) : a_subvalues a id f v ≤ 4 := by
  unfold a_subvalues
  by_cases c : id ∉ sI (aNow a) ∨ ¬ sFld f
  · rw [if_pos c]; omega
  · rw [if_neg c]
    by_cases c2 : ¬ (0 ≤ v ∧ v < fL (sF (aNow a) id f))
    · rw [if_pos c2]; omega
    · rw [if_neg c2]
      have c2 := Decidable.not_not.mp c2
      exact (fS_ok ((h.2 id (Decidable.byContradiction fun q => c (Or.inl q))).2.2 f (Decidable.byContradiction fun q => c (Or.inr q))) c2.1 c2.2).2
theorem look73 (s : aS) (l : Int) (hl : sLst l) : ∀ (d p : Nat) (x : Int64), (p : Int) + d = nList s l → ∃ v : Int64, ∀ (N : Nat) (M : jM) (a : aA) (kx : Int64 → Prop) (n : Nat), 300 ≤ N → XR M a → aNow a = s → d < n → kx v → lp_L_look_73 N 0 l M kx n x p := by
  intro d
  induction d with
  | zero =>
    intro p x hp
    refine ⟨x, fun N M a kx n hN hX ha hn hk => ?_⟩
    obtain ⟨n, rfl⟩ : ∃ m, n = m + 1 := ⟨n - 1, by omega⟩
    subst ha
    rw [lp_L_look_73]
    refine v_listSize hN hX (fun v hv => ?_)
    rw [a_listSize, if_neg (not_not_intro hl)] at hv
    rw [if_neg (by omega)]
    exact hk
  | succ d ih =>
    intro p x hp
    obtain ⟨v, hv⟩ := ih (p + 1) ((31 : Int64) * x + (jI (a_listAt (aOf s) l p)).toInt64) (by omega)
    refine ⟨v, fun N M a kx n hN hX ha hn hk => ?_⟩
    obtain ⟨n, rfl⟩ : ∃ m, n = m + 1 := ⟨n - 1, by omega⟩
    subst ha
    rw [lp_L_look_73]
    refine v_listSize hN hX (fun w hw => ?_)
    rw [a_listSize, if_neg (not_not_intro hl)] at hw
    have hn2 := nList_ok (aNow a) l
    rw [if_pos (by omega)]
    refine v_listAt hN hX (fun y hy => ?_)
    subst hy
    refine jL_v (fun z hz => ?_)
    subst hz
    refine jL_w (by omega) (fun q hq => ?_)
    subst hq
    exact hv N M a kx n hN hX rfl (by omega) hk
theorem look38 (s : aS) (hs : aOK s) : ∀ (d p : Nat) (x : Int64), p + d = 8 → ∃ v : Int64, ∀ (N : Nat) (M : jM) (a : aA) (kx : Int64 → Prop) (n : Nat), 300 ≤ N → XR M a → aNow a = s → d < n → kx v → lp_L_look_38 N 0 M kx n x p := by
  intro d
  induction d with
  | zero =>
    intro p x hp
    refine ⟨x, fun N M a kx n hN hX ha hn hk => ?_⟩
    obtain ⟨n, rfl⟩ : ∃ m, n = m + 1 := ⟨n - 1, by omega⟩
    rw [lp_L_look_38, if_neg (by omega)]
    exact hk
  | succ d ih =>
    intro p x hp
    obtain ⟨v1, hv1⟩ := look73 s p (by omega) (nList s p).toNat 0 ((31 : Int64) * ((31 : Int64) * x + (jI (a_associated (aOf s) (jRem p 4))).toInt64) + (jI (nList s p)).toInt64) (by have := nList_ok s p; omega)
    obtain ⟨v, hv⟩ := ih (p + 1) v1 (by omega)
    refine ⟨v, fun N M a kx n hN hX ha hn hk => ?_⟩
    obtain ⟨n, rfl⟩ : ∃ m, n = m + 1 := ⟨n - 1, by omega⟩
    subst ha
    rw [lp_L_look_38, if_pos (by omega)]
    refine v_associated hN hX (fun w hw => ?_)
    subst hw
    refine v_listSize hN hX (fun y hy => ?_)
    rw [a_listSize, if_neg (not_not_intro (by omega : sLst (p : Int)))] at hy
    subst hy
    refine jL_v (fun z hz => ?_)
    subst hz
    have hn2 := nList_ok (aNow a) p
    refine hv1 N M a _ N hN hX rfl (by omega) ?_
    refine jL_w (by omega) (fun q hq => ?_)
    subst hq
    exact hv N M a kx n hN hX rfl (by omega) hk
theorem look6 (s : aS) : ∀ (d p : Nat) (x : Int64), p + d = 18 → ∃ v : Int64, ∀ (M : jM) (a : aA) (kx : Int64 → Prop) (n : Nat), XR M a → aNow a = s → d < n → kx v → lp_L_look_6 0 M kx n x p := by
  intro d
  induction d with
  | zero =>
    intro p x hp
    refine ⟨x, fun M a kx n hX ha hn hk => ?_⟩
    obtain ⟨n, rfl⟩ : ∃ m, n = m + 1 := ⟨n - 1, by omega⟩
    rw [lp_L_look_6, if_neg (by omega)]
    exact hk
  | succ d ih =>
    intro p x hp
    obtain ⟨v, hv⟩ := ih (p + 1) ((31 : Int64) * x + (jI (a_column (aOf s) (jDiv p 3) (jRem p 3))).toInt64) (by omega)
    refine ⟨v, fun M a kx n hX ha hn hk => ?_⟩
    obtain ⟨n, rfl⟩ : ∃ m, n = m + 1 := ⟨n - 1, by omega⟩
    subst ha
    rw [lp_L_look_6, if_pos (by omega)]
    refine v_column (N := 300) (by omega) hX (fun w hw => ?_)
    subst hw
    refine jL_v (fun z hz => ?_)
    subst hz
    refine jL_w (by omega) (fun q hq => ?_)
    subst hq
    exact hv M a kx n hX rfl (by omega) hk
theorem look211 (s : aS) (hs : aOK s) (id f vv : Int) : ∀ (d p : Nat) (x : Int64), a_subvalues (aOf s) id f vv ≤ (p : Int) + d → p + d ≤ 100 → ∃ v : Int64, ∀ (N : Nat) (M : jM) (a : aA) (kx : Int64 → Prop) (n : Nat), 300 ≤ N → XR M a → aNow a = s → d < n → kx v → lp_L_look_211 N 0 id f vv M kx n x p := by
  intro d
  induction d with
  | zero =>
    intro p x hp hb
    refine ⟨x, fun N M a kx n hN hX ha hn hk => ?_⟩
    obtain ⟨n, rfl⟩ : ∃ m, n = m + 1 := ⟨n - 1, by omega⟩
    subst ha
    rw [lp_L_look_211]
    refine v_subvalues hN hX (fun v hv => ?_)
    have hp : a_subvalues a id f vv ≤ (p : Int) + (0 : Nat) := hp
    rw [if_neg (by omega)]
    exact hk
  | succ d ih =>
    intro p x hp hb
    by_cases c : (p : Int) < a_subvalues (aOf s) id f vv
    · obtain ⟨v, hv⟩ := ih (p + 1) ((31 : Int64) * x + (jI (a_get (aOf s) id f vv p)).toInt64) (by omega) (by omega)
      refine ⟨v, fun N M a kx n hN hX ha hn hk => ?_⟩
      obtain ⟨n, rfl⟩ : ∃ m, n = m + 1 := ⟨n - 1, by omega⟩
      subst ha
      rw [lp_L_look_211]
      refine v_subvalues hN hX (fun w hw => ?_)
      have c : (p : Int) < a_subvalues a id f vv := c
      rw [if_pos (by omega)]
      refine v_get hN hX (fun y hy => ?_)
      subst hy
      refine jL_v (fun z hz => ?_)
      subst hz
      refine jL_w (by omega) (fun q hq => ?_)
      subst hq
      exact hv N M a kx n hN hX rfl (by omega) hk
    · refine ⟨x, fun N M a kx n hN hX ha hn hk => ?_⟩
      obtain ⟨n, rfl⟩ : ∃ m, n = m + 1 := ⟨n - 1, by omega⟩
      subst ha
      rw [lp_L_look_211]
      refine v_subvalues hN hX (fun v hv => ?_)
      have c : ¬ (p : Int) < a_subvalues a id f vv := c
      rw [if_neg (by omega)]
      exact hk
theorem look177 (s : aS) (hs : aOK s) (id f : Int) : ∀ (d p : Nat) (x : Int64), a_values (aOf s) id f ≤ (p : Int) + d → p + d ≤ 100 → ∃ v : Int64, ∀ (N : Nat) (M : jM) (a : aA) (kx : Int64 → Prop) (n : Nat), 300 ≤ N → XR M a → aNow a = s → d < n → kx v → lp_L_look_177 N 0 id f M kx n x p := by
  intro d
  induction d with
  | zero =>
    intro p x hp hb
    refine ⟨x, fun N M a kx n hN hX ha hn hk => ?_⟩
    obtain ⟨n, rfl⟩ : ∃ m, n = m + 1 := ⟨n - 1, by omega⟩
    subst ha
    rw [lp_L_look_177]
    refine v_values hN hX (fun v hv => ?_)
    have hp : a_values a id f ≤ (p : Int) + (0 : Nat) := hp
    rw [if_neg (by omega)]
    exact hk
  | succ d ih =>
    intro p x hp hb
    by_cases c : (p : Int) < a_values (aOf s) id f
    · obtain ⟨v1, hv1⟩ := look211 s hs id f p 4 0 ((31 : Int64) * x + (jI (a_subvalues (aOf s) id f p)).toInt64) (by have := subvalues_le (a := aOf s) hs id f p; omega) (by omega)
      obtain ⟨v, hv⟩ := ih (p + 1) v1 (by omega) (by omega)
      refine ⟨v, fun N M a kx n hN hX ha hn hk => ?_⟩
      obtain ⟨n, rfl⟩ : ∃ m, n = m + 1 := ⟨n - 1, by omega⟩
      subst ha
      rw [lp_L_look_177]
      refine v_values hN hX (fun w hw => ?_)
      have c : (p : Int) < a_values a id f := c
      rw [if_pos (by omega)]
      refine v_subvalues hN hX (fun y hy => ?_)
      subst hy
      refine jL_v (fun z hz => ?_)
      subst hz
      refine hv1 N M a _ N hN hX rfl (by omega) ?_
      refine jL_w (by omega) (fun q hq => ?_)
      subst hq
      exact hv N M a kx n hN hX rfl (by omega) hk
    · refine ⟨x, fun N M a kx n hN hX ha hn hk => ?_⟩
      obtain ⟨n, rfl⟩ : ∃ m, n = m + 1 := ⟨n - 1, by omega⟩
      subst ha
      rw [lp_L_look_177]
      refine v_values hN hX (fun v hv => ?_)
      have c : ¬ (p : Int) < a_values a id f := c
      rw [if_neg (by omega)]
      exact hk
theorem look152 (s : aS) (hs : aOK s) (id : Int) : ∀ (d p : Nat) (x : Int64), p + d = 4 → ∃ v : Int64, ∀ (N : Nat) (M : jM) (a : aA) (kx : Int64 → Prop) (n : Nat), 300 ≤ N → XR M a → aNow a = s → d < n → kx v → lp_L_look_152 N 0 id M kx n x p := by
  intro d
  induction d with
  | zero =>
    intro p x hp
    refine ⟨x, fun N M a kx n hN hX ha hn hk => ?_⟩
    obtain ⟨n, rfl⟩ : ∃ m, n = m + 1 := ⟨n - 1, by omega⟩
    rw [lp_L_look_152, if_neg (by omega)]
    exact hk
  | succ d ih =>
    intro p x hp
    obtain ⟨v1, hv1⟩ := look177 s hs id p 5 0 ((31 : Int64) * x + (jI (a_values (aOf s) id p)).toInt64) (by have := values_le (a := aOf s) hs id p; omega) (by omega)
    obtain ⟨v, hv⟩ := ih (p + 1) v1 (by omega)
    refine ⟨v, fun N M a kx n hN hX ha hn hk => ?_⟩
    obtain ⟨n, rfl⟩ : ∃ m, n = m + 1 := ⟨n - 1, by omega⟩
    subst ha
    rw [lp_L_look_152, if_pos (by omega)]
    refine v_values hN hX (fun w hw => ?_)
    subst hw
    refine jL_v (fun z hz => ?_)
    subst hz
    refine hv1 N M a _ N hN hX rfl (by omega) ?_
    refine jL_w (by omega) (fun q hq => ?_)
    subst hq
    exact hv N M a kx n hN hX rfl (by omega) hk
theorem look112 (s : aS) (hs : aOK s) : ∀ (d p : Nat) (x : Int64), p + d = (sI s).length → ∃ v : Int64, ∀ (N : Nat) (M : jM) (a : aA) (kx : Int64 → Prop) (n : Nat), 300 ≤ N → XR M a → aNow a = s → d < n → kx v → lp_L_look_112 N 0 M kx n x p := by
  intro d
  induction d with
  | zero =>
    intro p x hp
    refine ⟨x, fun N M a kx n hN hX ha hn hk => ?_⟩
    obtain ⟨n, rfl⟩ : ∃ m, n = m + 1 := ⟨n - 1, by omega⟩
    subst ha
    rw [lp_L_look_112]
    refine v_records hN hX (fun v hv => ?_)
    rw [if_neg (by omega)]
    exact hk
  | succ d ih =>
    intro p x hp
    obtain ⟨v1, hv1⟩ := look152 s hs (a_recordAt (aOf s) p) 4 0 ((31 : Int64) * ((31 : Int64) * x + (jI (a_recordAt (aOf s) p)).toInt64) + (jI (a_locker (aOf s) (a_recordAt (aOf s) p))).toInt64) (by omega)
    obtain ⟨v, hv⟩ := ih (p + 1) v1 (by omega)
    refine ⟨v, fun N M a kx n hN hX ha hn hk => ?_⟩
    obtain ⟨n, rfl⟩ : ∃ m, n = m + 1 := ⟨n - 1, by omega⟩
    subst ha
    rw [lp_L_look_112]
    refine v_records hN hX (fun w hw => ?_)
    rw [if_pos (by omega)]
    refine v_recordAt hN hX (fun y hy => ?_)
    subst hy
    refine v_locker hN hX (fun y hy => ?_)
    subst hy
    refine jL_v (fun z hz => ?_)
    subst hz
    have h10 := hs.1.1
    refine hv1 N M a _ N hN hX rfl (by omega) ?_
    refine jL_w (by omega) (fun q hq => ?_)
    subst hq
    exact hv N M a kx n hN hX rfl (by omega) hk
theorem look_ex (s : aS) (hs : aOK s) : ∃ v : Int64, ∀ (N : Nat) (M : jM) (a : aA) (k : Int64 → Prop), 300 ≤ N → XR M a → aNow a = s → k v → w_L_look N M 0 k := by
  obtain ⟨v1, h1⟩ := look6 s 18 0 439 (by omega)
  obtain ⟨v2, h2⟩ := look38 s hs 8 0 v1 (by omega)
  obtain ⟨v3, h3⟩ := look112 s hs (sI s).length 0 v2 (by omega)
  refine ⟨v3, fun N M a k hN hX ha hk => ?_⟩
  have h10 := hs.1.1
  unfold w_L_look
  refine jL_v (fun z hz => ?_)
  subst hz
  refine h1 M a _ N hX ha (by omega) ?_
  refine h2 N M a _ N hN hX ha (by omega) ?_
  exact h3 N M a _ N hN hX ha (by omega) hk
