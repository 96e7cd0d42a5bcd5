/-! types, loads: a typed text; what is loaded is what was typed -/
abbrev aSame (a a' : aA) : Prop := aNow a' = aNow a ∧ aH a' = aH a
theorem append_ok {M : jM} {a : aA} {c : Int} {k : Int → jM → Prop} (hX : XR M a) (hc : 32 ≤ c ∧ c ≤ 126) (hl : (aT a).length < 90) (H : ∀ (v : Int) (M' : jM), 0 < v → XR M' (aNow a, aH a, aT a ++ [c], aP a) → k v M') : w_X6_append M 0 c k := by
  have e : a_append a c = (((aT a).length : Int) + 1, (aNow a, aH a, aT a ++ [c], aP a)) := by
    rw [a_append, if_neg (not_not_intro hc), if_neg (by omega)]
  refine v_append (N := 300) (by omega) hX (fun v M' hv hX' => ?_)
  rw [e] at hv hX'
  have hv : v = (aT a).length + 1 := hv
  exact H v M' (by omega) hX'
theorem digits_k {M : jM} {a : aA} {v : Int} {k : Int → jM → Prop} (hX : XR M a) (hv : -9 ≤ v ∧ v ≤ 9) (hl : (aT a).length + 2 ≤ 90) (K : ∀ (M' : jM) (a' : aA), XR M' a' → aSame a a' → (aT a').length ≤ (aT a).length + 2 → k 1 M') : w_L_digits M 0 v k := by
  unfold w_L_digits
  refine jL_s (fun x1 => (v < 0 → x1 = -v) ∧ (¬ v < 0 → x1 = v)) (fun j hj => ?_) (fun x1 h1 => ?_)
  · by_cases c : v < 0
    · rw [if_pos c, jW_id (by omega)]; exact hj _ ⟨fun _ => rfl, fun z => absurd c z⟩
    · rw [if_neg c]; exact hj _ ⟨fun z => absurd z c, fun _ => rfl⟩
  obtain ⟨h1, h2⟩ := h1
  by_cases c : v < 0
  · have e := h1 c
    have ed : jW (48 + jRem x1 10) = 48 + x1 := by rw [jRem_i (by omega) (by omega) (by decide) (by decide), jW_id (by omega)]; omega
    rw [if_pos c]
    refine append_ok hX (by decide) (by omega) (fun t M1 ht hX1 => ?_)
    rw [if_neg (by omega), if_pos (by omega), if_pos (by omega), ed]
    refine append_ok hX1 (by omega) (by show (aT a ++ [45]).length < 90; simp; omega) (fun t2 M2 ht2 hX2 => ?_)
    rw [if_neg (by omega)]
    refine K _ _ hX2 ⟨rfl, rfl⟩ ?_
    show ((aT a ++ [45]) ++ [48 + x1]).length ≤ _
    simp
  · have e := h2 c
    have ed : jW (48 + jRem x1 10) = 48 + x1 := by rw [jRem_i (by omega) (by omega) (by decide) (by decide), jW_id (by omega)]; omega
    rw [if_neg c, if_pos (by omega), if_pos (by omega), ed]
    refine append_ok hX (by omega) (by omega) (fun t2 M2 ht2 hX2 => ?_)
    rw [if_neg (by omega)]
    refine K _ _ hX2 ⟨rfl, rfl⟩ ?_
    show (aT a ++ [48 + x1]).length ≤ _
    simp
/-- one value: a number, a second one behind a slash or not -/
theorem ty_val {M : jM} {a : aA} {y : Int} {A B C D E : jM → Prop} (hX : XR M a) (hl : (aT a).length + 5 ≤ 90) (hD : ∀ (M' : jM) (a' : aA), XR M' a' → aSame a a' → (aT a').length ≤ (aT a).length + 5 → D M') (hE : ∀ (M' : jM) (a' : aA), XR M' a' → aSame a a' → (aT a').length ≤ (aT a).length + 5 → E M') :
    w_L_low y 9 (fun x30 => (w_L_digits M 0 (jW (x30 - 4)) (fun x31 M32 => (if x31 = 0 then A M32 else (w_L_low (jShr y 3) 3 (fun x34 => (if x34 ≤ 0 then (w_X6_append M32 0 47 (fun x35 M36 => (if x35 ≤ 0 then B M36 else (w_L_low (jShr y 1) 9 (fun x38 => (w_L_digits M36 0 (jW (x38 - 4)) (fun x39 M40 => (if x39 = 0 then C M40 else D M40)))))))) else E M32))))))) := by
  refine low_k (by omega) (by omega) (fun x30 _ _ => ?_)
  rw [jW_id (by omega)]
  refine digits_k hX (by omega) (by omega) (fun M1 a1 hX1 s1 l1 => ?_)
  rw [if_neg (by omega)]
  refine low_k (by omega) (by omega) (fun x34 _ _ => ?_)
  by_cases c : x34 ≤ 0
  · rw [if_pos c]
    refine append_ok hX1 (by decide) (by omega) (fun t M2 ht hX2 => ?_)
    rw [if_neg (by omega)]
    refine low_k (by omega) (by omega) (fun x38 _ _ => ?_)
    rw [jW_id (by omega)]
    have l2 : (aT (aNow a1, aH a1, aT a1 ++ [47], aP a1)).length = (aT a1).length + 1 := by show (aT a1 ++ [47]).length = _; simp
    refine digits_k hX2 (by omega) (by omega) (fun M3 a3 hX3 s3 l3 => ?_)
    rw [if_neg (by omega)]
    exact hD _ _ hX3 ⟨s3.1.trans s1.1, s3.2.trans s1.2⟩ (by omega)
  · rw [if_neg c]
    exact hE _ _ hX1 s1 (by omega)
theorem ty107 {y f m : Int} {kx : Int → jM → Prop} (hm : m ≤ 6) : ∀ (d n : Nat) (v : Int) (M : jM) (a : aA), d < n → m = v + d → 0 ≤ v → XR M a → (aT a).length + 6 * d ≤ 90 → (∀ (M' : jM) (a' : aA), XR M' a' → aSame a a' → (aT a').length ≤ (aT a).length + 6 * d → kx 1 M') → lp_L_types_107 0 y f m kx n 1 v M := by
  intro d
  induction d with
  | zero =>
    intro n v M a hn hv h0 hX hl K
    obtain ⟨n, rfl⟩ : ∃ q, n = q + 1 := ⟨n - 1, by omega⟩
    rw [lp_L_types_107, if_neg (by omega)]
    exact K M a hX ⟨rfl, rfl⟩ (by omega)
  | succ d ih =>
    intro n v M a hn hv h0 hX hl K
    obtain ⟨n, rfl⟩ : ∃ q, n = q + 1 := ⟨n - 1, by omega⟩
    rw [lp_L_types_107, if_pos (by omega)]
    refine jL_v (fun x28 _ => ?_)
    rw [if_neg (by omega)]
    have step : ∀ (M' : jM) (a' : aA), XR M' a' → aSame a a' → (aT a').length ≤ (aT a).length + 6 → jL (jW (v + 1)) (fun x33 => lp_L_types_107 0 y f m kx n 1 x33 M') := by
      intro M' a' hX' s' l'
      refine jL_w (by omega) (fun q hq => ?_)
      exact ih n q M' a' (by omega) (by omega) (by omega) hX' (by omega) (fun M2 a2 hX2 s2 l2 => K M2 a2 hX2 ⟨s2.1.trans s'.1, s2.2.trans s'.2⟩ (by omega))
    by_cases c : v = 0
    · rw [if_pos c]
      exact ty_val hX (by omega) (fun M1 a1 hX1 s1 l1 => step M1 a1 hX1 s1 (by omega)) (fun M1 a1 hX1 s1 l1 => step M1 a1 hX1 s1 (by omega))
    · rw [if_neg c]
      refine append_ok hX (by decide) (by omega) (fun t M1 ht hX1 => ?_)
      rw [if_neg (by omega)]
      have l2 : (aT (aNow a, aH a, aT a ++ [93], aP a)).length = (aT a).length + 1 := by show (aT a ++ [93]).length = _; simp
      exact ty_val hX1 (by omega) (fun M2 a2 hX2 s2 l2' => step M2 a2 hX2 s2 (by omega)) (fun M2 a2 hX2 s2 l2' => step M2 a2 hX2 s2 (by omega))
theorem ty40 {N : Nat} {y m : Int} {kx : Int → jM → Prop} (hN : 300 ≤ N) (hm : m ≤ 5) : ∀ (d n : Nat) (f : Int) (M : jM) (a : aA), d < n → m = f + d → 0 ≤ f → XR M a → (aT a).length + 13 * d + (if f = 0 then 23 else 0) ≤ 89 → (∀ (M' : jM) (a' : aA), XR M' a' → aSame a a' → (aT a').length ≤ 89 → kx 1 M') → lp_L_types_40 N 0 y m kx n 1 f M := by
  intro d
  induction d with
  | zero =>
    intro n f M a hn hv h0 hX hl K
    obtain ⟨n, rfl⟩ : ∃ q, n = q + 1 := ⟨n - 1, by omega⟩
    rw [lp_L_types_40, if_neg (by omega)]
    exact K M a hX ⟨rfl, rfl⟩ (by omega)
  | succ d ih =>
    intro n f M a hn hv h0 hX hl K
    obtain ⟨n, rfl⟩ : ∃ q, n = q + 1 := ⟨n - 1, by omega⟩
    rw [lp_L_types_40, if_pos (by omega)]
    refine jL_s (fun x16 => (x16 = 3 ∨ x16 = 7) ∧ (¬ f = 0 → x16 = 3)) (fun j hj => ?_) (fun x16 h16 => ?_)
    · by_cases c : f = 0
      · rw [if_pos c]
        refine low_k (by omega) (by omega) (fun x63 _ _ => ?_)
        by_cases c2 : x63 = 0
        · rw [if_pos c2]; exact hj _ ⟨Or.inr rfl, fun z => absurd c z⟩
        · rw [if_neg c2]; exact hj _ ⟨Or.inl rfl, fun z => absurd c z⟩
      · rw [if_neg c]; exact hj _ ⟨Or.inl rfl, fun _ => rfl⟩
    obtain ⟨h16, h16b⟩ := h16
    refine low_k (by omega) (by omega) (fun x18 h18 h18b => ?_)
    obtain ⟨q18, e18⟩ : ∃ q : Nat, x18 = q := ⟨x18.toNat, by omega⟩
    refine jL_s2 (fun x19 M21 => x19 = 1 ∧ ∃ a', XR M21 a' ∧ aSame a a' ∧ (aT a').length ≤ (aT a).length + (if f = 0 then 0 else 1)) (fun j hj => ?_) (fun x19 M21 h19 => ?_)
    · rw [if_neg (by omega)]
      by_cases c : f = 0
      · rw [if_pos c]; exact hj _ _ ⟨rfl, a, hX, ⟨rfl, rfl⟩, by omega⟩
      · rw [if_neg c]
        rw [if_neg c] at hl
        refine append_ok hX (by decide) (by omega) (fun t M1 ht hX1 => ?_)
        rw [if_neg (by omega)]
        refine hj _ _ ⟨rfl, _, hX1, ⟨rfl, rfl⟩, ?_⟩
        rw [if_neg c]
        show (aT a ++ [94]).length ≤ _
        simp
    obtain ⟨h19, a1, hX1, s1, l1⟩ := h19
    subst h19
    have hg : (aT a1).length + 6 * q18 ≤ (aT a).length + 13 + (if f = 0 then 23 else 0) := by
      by_cases c : f = 0
      · rw [if_pos c] at l1 ⊢; omega
      · rw [if_neg c] at l1 ⊢; have := h16b c; omega
    refine ty107 (by omega) q18 N 0 M21 a1 (by omega) (by omega) (by omega) hX1 (by omega) (fun M2 a2 hX2 s2 l2 => ?_)
    refine jL_w (by omega) (fun q hq => ?_)
    refine ih n q M2 a2 (by omega) (by omega) (by omega) hX2 ?_ (fun M3 a3 hX3 s3 l3 => K M3 a3 hX3 ⟨s3.1.trans (s2.1.trans s1.1), s3.2.trans (s2.2.trans s1.2)⟩ l3)
    rw [if_neg (by omega)]
    omega
theorem types_k {N : Nat} {M : jM} {a : aA} {y : Int} {k : Int → jM → Prop} (hN : 300 ≤ N) (hX : XR M a) (K : ∀ (M' : jM) (a' : aA), XR M' a' → aSame a a' → k 1 M') : w_L_types N M 0 y k := by
  unfold w_L_types
  refine low_k (by omega) (by omega) (fun x1 _ _ => ?_)
  refine jL_s (fun x2 => 3 ≤ x2 ∧ x2 ≤ 5) (fun j hj => ?_) (fun x2 h2 => ?_)
  · by_cases c : x1 = 0
    · rw [if_pos c]
      refine low_k (by omega) (by omega) (fun x64 _ _ => ?_)
      rw [jW_id (by omega)]
      exact hj _ ⟨by omega, by omega⟩
    · rw [if_neg c]; exact hj _ ⟨by omega, by omega⟩
  obtain ⟨h2, h2b⟩ := h2
  refine v_clearText hN hX (fun x4 M1 h4 hX1 => ?_)
  have h4 : x4 = ((aT a).length : Nat) := h4
  have hX1 : XR M1 (aNow a, aH a, [], aP a) := hX1
  refine jL_s (fun x6 => x6 = 1) (fun j hj => ?_) (fun x6 h6 => ?_)
  · rw [if_neg (by omega)]; exact hj _ rfl
  have h6 : x6 = 1 := h6
  subst h6
  refine ty40 hN (by omega) x2.toNat N 0 M1 _ (by omega) (by omega) (by omega) hX1 (by show ([] : List Int).length + _ + _ ≤ 89; rw [if_pos rfl]; simp; omega) (fun M2 a2 hX2 s2 l2 => ?_)
  rw [if_neg (by omega)]
  refine low_k (by omega) (by omega) (fun x13 _ _ => ?_)
  by_cases c : x13 ≤ 0
  · rw [if_pos c]
    refine append_ok hX2 (by decide) (by omega) (fun t M3 ht hX3 => ?_)
    rw [if_neg (by omega)]
    exact K _ _ hX3 s2
  · rw [if_neg c]
    exact K _ _ hX2 s2
theorem ld220 {N : Nat} {M : jM} {a : aA} {id f : Int} {kx : Int → Prop} (hN : 300 ≤ N) (hX : XR M a) (hid : id ∈ sI (aNow a)) (hf : sFld f) : ∀ (d n p : Nat) (t : Int), d < n → p + d = (sF (aNow a) id f).length → 0 ≤ t → t + 4 * d ≤ 1000 → kx (t + (nSubs ((sF (aNow a) id f).drop p) : Nat)) → lp_L_loads_220 N 0 id f M kx n t p := by
  have hs := hX.aok
  have hok := (hs.2 id hid).2.2 f hf
  have hl5 := fL_ok hok
  intro d
  induction d with
  | zero =>
    intro n p t hn hp t0 tb hk
    obtain ⟨n, rfl⟩ : ∃ q, n = q + 1 := ⟨n - 1, by omega⟩
    rw [lp_L_loads_220]
    refine v_values hN hX (fun w hw => ?_)
    rw [values_in hid hf] at hw
    have hw : w = ((sF (aNow a) id f).length : Nat) := hw
    rw [if_neg (by omega)]
    rw [List.drop_eq_nil_of_le (by omega)] at hk
    simpa [nSubs] using hk
  | succ d ih =>
    intro n p t hn hp t0 tb hk
    obtain ⟨n, rfl⟩ : ∃ q, n = q + 1 := ⟨n - 1, by omega⟩
    rw [lp_L_loads_220]
    refine v_values hN hX (fun w hw => ?_)
    rw [values_in hid hf] at hw
    have hw : w = ((sF (aNow a) id f).length : Nat) := hw
    have hpl : (p : Int) < fL (sF (aNow a) id f) := by unfold fL; omega
    rw [if_pos (by omega)]
    refine v_subvalues hN hX (fun z hz => ?_)
    rw [subvalues_in hid hf ⟨by omega, hpl⟩] at hz
    have hz4 := fS_ok hok (by omega : (0 : Int) ≤ p) hpl
    refine jL_w (by omega) (fun q hq => ?_)
    refine jL_w (by omega) (fun q2 hq2 => ?_)
    subst hq2
    refine ih n (p + 1) q (by omega) (by omega) (by omega) (by omega) ?_
    have e : nSubs ((sF (aNow a) id f).drop p) = (fV (sF (aNow a) id f) p).length + nSubs ((sF (aNow a) id f).drop (p + 1)) := by
      rw [fV_drop (by omega)]
      simp [nSubs]
    have e2 : t + (nSubs ((sF (aNow a) id f).drop p) : Nat) = q + (nSubs ((sF (aNow a) id f).drop (p + 1)) : Nat) := by
      rw [e]
      unfold fS at hz
      omega
    rw [e2] at hk
    exact hk
def nTo (F : rF) : Nat → Nat → Int
  | 0, _ => 0
  | d + 1, p => (nSubs (F p) : Nat) + nTo F d (p + 1)
theorem nTo_4 (F : rF) : nTo F 4 0 = nAll F := by
  unfold nAll
  simp only [nTo]
  simp
  omega
theorem nSubs_ok {L : List (List Int)} (h : fOK L) : nSubs L ≤ 20 := by
  have := nSubs_le (fun V hV => (h.2 V hV).2.1)
  have := h.1
  omega
theorem ld211 {N : Nat} {M : jM} {a : aA} {id : Int} {kx : Int → Prop} (hN : 300 ≤ N) (hX : XR M a) (hid : id ∈ sI (aNow a)) : ∀ (d n p : Nat) (t : Int), d < n → p + d = 4 → 0 ≤ t → t ≤ 20 * p → kx (t + nTo (sF (aNow a) id) d p) → lp_L_loads_211 N 0 id M kx n t p := by
  have hs := hX.aok
  intro d
  induction d with
  | zero =>
    intro n p t hn hp t0 tb hk
    obtain ⟨n, rfl⟩ : ∃ q, n = q + 1 := ⟨n - 1, by omega⟩
    rw [lp_L_loads_211, if_neg (by omega)]
    simpa [nTo] using hk
  | succ d ih =>
    intro n p t hn hp t0 tb hk
    obtain ⟨n, rfl⟩ : ∃ q, n = q + 1 := ⟨n - 1, by omega⟩
    rw [lp_L_loads_211, if_pos (by omega)]
    have hf : sFld (p : Int) := by omega
    have hok := (hs.2 id hid).2.2 p hf
    have h20 := nSubs_ok hok
    have hl5 := hok.1
    refine ld220 hN hX hid hf (sF (aNow a) id p).length N 0 t (by omega) (by omega) t0 (by omega) ?_
    refine jL_w (by omega) (fun q hq => ?_)
    subst hq
    rw [List.drop_zero]
    refine ih n (p + 1) _ (by omega) (by omega) (by omega) (by omega) ?_
    have e : t + nTo (sF (aNow a) id) (d + 1) p = t + (nSubs (sF (aNow a) id p) : Nat) + nTo (sF (aNow a) id) d (p + 1) := by
      simp only [nTo]
      omega
    rw [e] at hk
    exact hk
set_option maxHeartbeats 1000000 in
theorem loads_k {N : Nat} {M : jM} {a : aA} {k : Int → jM → Prop} {u id y : Int} (hN : 300 ≤ N) (hX : XR M a) (hu : 0 ≤ u ∧ u < 5) (K : ∀ (M' : jM) (a' : aA), XR M' a' → aStep a a' → k 1 M') : w_L_loads N M 0 u id y k := by
  obtain ⟨lk, hlk⟩ := look_ex (aNow a) hX.aok
  unfold w_L_loads
  refine hlk N M a _ hN hX rfl ?_
  refine types_k hN hX (fun M3 a3 hX3 s3 => ?_)
  have hs := hX3.aok
  refine v_fault hN hX3 (fun x4 M5 h4 hX5 => ?_)
  have h4 : x4 = (rd (aT a3)).1 := h4
  have hrd := rd_ok (aT a3)
  refine jL_s (fun x6 => (x6 = 0 ∧ sUsr u ∧ id ∈ sI (aNow a3)) ∨ (x6 = 1 ∧ (¬ sUsr u ∨ id ∉ sI (aNow a3)))) (fun j hj => ?_) (fun x6 h6 => ?_)
  · by_cases c : u ≤ 3
    · rw [if_pos c]
      refine v_locker hN hX5 (fun w hw => ?_)
      by_cases c2 : id ∈ sI (aNow a3)
      · rw [locker_in c2] at hw
        have := (hs.2 id c2).2.1
        rw [if_neg (by omega)]
        exact hj _ (Or.inl ⟨rfl, by omega, c2⟩)
      · rw [locker_out c2] at hw
        rw [if_pos hw]; exact hj _ (Or.inr ⟨rfl, Or.inr c2⟩)
    · rw [if_neg c]; exact hj _ (Or.inr ⟨rfl, Or.inl (by omega)⟩)
  refine jL_s (fun x8 => (x8 = 0 ∧ (x6 = 0 → sOpen (aNow a3) u id)) ∨ (x8 = 1 ∧ x6 = 0 ∧ ¬ sOpen (aNow a3) u id)) (fun j hj => ?_) (fun x8 h8 => ?_)
  · rcases h6 with ⟨c5, d0, d1⟩ | ⟨c5, -⟩
    · rw [if_pos c5]
      refine v_locker hN hX5 (fun q hq => ?_)
      rw [locker_in d1] at hq
      by_cases c : q = -1000007
      · rw [if_pos c]; exact hj _ (Or.inl ⟨rfl, fun _ => Or.inl (by omega)⟩)
      · rw [if_neg c]
        refine v_locker hN hX5 (fun q2 hq2 => ?_)
        rw [locker_in d1] at hq2
        by_cases c2 : q2 = u
        · rw [if_pos c2]; exact hj _ (Or.inl ⟨rfl, fun _ => Or.inr (by omega)⟩)
        · rw [if_neg c2]; exact hj _ (Or.inr ⟨rfl, c5, fun z => z.elim (fun z => by omega) (fun z => by omega)⟩)
    · rw [if_neg (by omega)]; exact hj _ (Or.inl ⟨rfl, fun z => by omega⟩)
  refine v_load hN hX5 (fun x10 M11 h10 hX11 => ?_)
  have hE : (x6 = 1 ∧ a_load a3 u id = (-1000001, a3)) ∨ (x6 = 0 ∧ x4 ≠ -1000007 ∧ a_load a3 u id = (-1000003, a3)) ∨ (x6 = 0 ∧ x4 = -1000007 ∧ x8 = 1 ∧ a_load a3 u id = (-1000006, a3)) ∨ (x6 = 0 ∧ x4 = -1000007 ∧ x8 = 0 ∧ id ∈ sI (aNow a3) ∧ a_load a3 u id = (nAll (rd (aT a3)).2, aDo a3 (setFs (aNow a3) id (rd (aT a3)).2))) := by
    unfold a_load
    rw [← h4]
    rcases h6 with ⟨c5, d0, d1⟩ | ⟨c5, d0⟩
    · rw [if_neg (fun z => z.elim (fun z => z d0) (fun z => z d1))]
      by_cases c : x4 = -1000007
      · rw [if_neg (not_not_intro c)]
        rcases h8 with ⟨e8, co⟩ | ⟨e8, -, co⟩
        · rw [if_neg (not_not_intro (co c5))]
          exact Or.inr (Or.inr (Or.inr ⟨c5, c, e8, d1, rfl⟩))
        · rw [if_pos co]
          exact Or.inr (Or.inr (Or.inl ⟨c5, c, e8, rfl⟩))
      · rw [if_pos c]
        exact Or.inr (Or.inl ⟨c5, c, rfl⟩)
    · rw [if_pos d0]
      exact Or.inl ⟨c5, rfl⟩
  rcases hE with ⟨c6, hE⟩ | ⟨c6, c4, hE⟩ | ⟨c6, c4, c8, hE⟩ | ⟨c6, c4, c8, d1, hE⟩ <;> rw [hE] at h10 hX11
  · have h10 : x10 = -1000001 := h10
    have hX11 : XR M11 a3 := hX11
    refine jL_s2 (fun x12 M14 => M14 = M11) (fun j hj => ?_) (fun x12 M14 h12 => ?_)
    · rw [if_neg (by omega)]; exact hj _ _ rfl
    have h12 : M14 = M11 := h12
    subst h12
    refine v_clearText hN hX11 (fun x15 M16 h15 hX16 => ?_)
    have h15 : x15 = ((aT a3).length : Nat) := h15
    refine jL_s (fun x17 => x17 = 1) (fun j hj => ?_) (fun x17 h17 => ?_)
    · rw [if_neg (by omega)]
      by_cases c : x4 = -1000007
      · rw [if_pos c]; exact hj _ rfl
      · rw [if_neg c, if_neg (by omega), if_pos (by omega)]; exact hj _ rfl
    have h17 : x17 = 1 := h17
    refine jL_s0 True (fun j hj => ?_) (fun _ => ?_)
    · rw [if_neg (by omega)]; exact hj trivial
    rw [if_neg (by omega), if_neg (by omega), if_pos h10]
    refine hlk N M16 _ _ hN hX16 s3.1 ?_
    rw [if_pos (jLc_0.mpr rfl)]
    exact K _ _ hX16 (Or.inl s3)
  · have h10 : x10 = -1000003 := h10
    have hX11 : XR M11 a3 := hX11
    refine jL_s2 (fun x12 M14 => M14 = M11) (fun j hj => ?_) (fun x12 M14 h12 => ?_)
    · rw [if_pos c6, if_pos (by omega)]; exact hj _ _ rfl
    have h12 : M14 = M11 := h12
    subst h12
    refine v_clearText hN hX11 (fun x15 M16 h15 hX16 => ?_)
    have h15 : x15 = ((aT a3).length : Nat) := h15
    refine jL_s (fun x17 => x17 = 1) (fun j hj => ?_) (fun x17 h17 => ?_)
    · rw [if_neg (by omega), if_neg c4, if_neg (by omega), if_pos (by omega)]; exact hj _ rfl
    have h17 : x17 = 1 := h17
    refine jL_s0 True (fun j hj => ?_) (fun _ => ?_)
    · rw [if_pos c6, if_neg c4]; exact hj trivial
    rw [if_neg (by omega), if_pos c6, if_neg c4, if_pos h10]
    refine hlk N M16 _ _ hN hX16 s3.1 ?_
    rw [if_pos (jLc_0.mpr rfl)]
    exact K _ _ hX16 (Or.inl s3)
  · have h10 : x10 = -1000006 := h10
    have hX11 : XR M11 a3 := hX11
    refine jL_s2 (fun x12 M14 => M14 = M11) (fun j hj => ?_) (fun x12 M14 h12 => ?_)
    · rw [if_pos c6, if_pos (by omega)]; exact hj _ _ rfl
    have h12 : M14 = M11 := h12
    subst h12
    refine v_clearText hN hX11 (fun x15 M16 h15 hX16 => ?_)
    refine jL_s (fun x17 => x17 = 1) (fun j hj => ?_) (fun x17 h17 => ?_)
    · rw [if_neg (by omega), if_pos c4]; exact hj _ rfl
    have h17 : x17 = 1 := h17
    refine jL_s0 True (fun j hj => ?_) (fun _ => ?_)
    · rw [if_pos c6, if_pos c4, if_neg (by omega)]; exact hj trivial
    rw [if_neg (by omega), if_pos c6, if_pos c4, if_pos h10]
    refine hlk N M16 _ _ hN hX16 s3.1 ?_
    rw [if_pos (jLc_0.mpr rfl)]
    exact K _ _ hX16 (Or.inl s3)
  · have h10 : x10 = nAll (rd (aT a3)).2 := h10
    have n0 : 0 ≤ nAll (rd (aT a3)).2 := by unfold nAll; omega
    have ed1 : id ∈ sI (aNow (aDo a3 (setFs (aNow a3) id (rd (aT a3)).2))) := d1
    have eF : sF (aNow (aDo a3 (setFs (aNow a3) id (rd (aT a3)).2))) id = (rd (aT a3)).2 := by
      show uI (sF (aNow a3)) id (rd (aT a3)).2 id = _
      exact uI_self _ _ _
    have hT : prR (rd (aT a3)).2 4 = aT a3 := by
      rcases hrd with ⟨-, h⟩ | ⟨h, -⟩
      · exact h
      · omega
    refine jL_s2 (fun x12 M14 => x12 = ((aT a3).length : Nat) ∧ XR M14 (aNow (aDo a3 (setFs (aNow a3) id (rd (aT a3)).2)), aH (aDo a3 (setFs (aNow a3) id (rd (aT a3)).2)), aT a3, aT a3)) (fun j hj => ?_) (fun x12 M14 h12 => ?_)
    · rw [if_pos c6, if_neg (by omega)]
      refine v_print hN hX11 (fun w M15 hw hX15 => ?_)
      have eP : a_print (aDo a3 (setFs (aNow a3) id (rd (aT a3)).2)) id = (((aT a3).length : Int), (aNow (aDo a3 (setFs (aNow a3) id (rd (aT a3)).2)), aH (aDo a3 (setFs (aNow a3) id (rd (aT a3)).2)), aT a3, aT a3)) := by
        rw [a_print, if_neg (not_not_intro ed1), eF, hT]
        rfl
      rw [eP] at hw hX15
      exact hj _ _ ⟨hw, hX15⟩
    obtain ⟨h12, hX14⟩ := h12
    refine v_clearText hN hX14 (fun x15 M16 h15 hX16 => ?_)
    have h15 : x15 = ((aT a3).length : Nat) := h15
    refine jL_s (fun x17 => x17 = 1) (fun j hj => ?_) (fun x17 h17 => ?_)
    · rw [if_neg (by omega), if_pos c4]; exact hj _ rfl
    have h17 : x17 = 1 := h17
    refine jL_s0 False (fun j hj => ?_) (fun z => z.elim)
    rw [if_pos c6, if_pos c4, if_pos c8]
    have hX16 : XR M16 (aNow (aDo a3 (setFs (aNow a3) id (rd (aT a3)).2)), aH (aDo a3 (setFs (aNow a3) id (rd (aT a3)).2)), [], aT a3) := hX16
    refine ld211 hN hX16 (id := id) ed1 4 N 0 0 (by omega) (by omega) (by omega) (by omega) ?_
    rw [if_neg (by omega)]
    have e : (0 : Int) + nTo (sF (aNow (aNow (aDo a3 (setFs (aNow a3) id (rd (aT a3)).2)), aH (aDo a3 (setFs (aNow a3) id (rd (aT a3)).2)), ([] : List Int), aT a3)) id) 4 0 = nAll (rd (aT a3)).2 := by
      rw [nTo_4, Int.zero_add]
      show nAll (sF (aNow (aDo a3 (setFs (aNow a3) id (rd (aT a3)).2))) id) = _
      rw [eF]
    rw [e, if_pos h10, if_pos (by omega)]
    exact K _ _ hX16 (Or.inr (by show hPush (aH a3) (aNow a3) = _; rw [s3.1, s3.2]))
