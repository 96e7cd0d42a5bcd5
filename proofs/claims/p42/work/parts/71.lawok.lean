/-! the law's loop -/
theorem lot_k {X : Int → Int} {L i : Int} {k : Int → Prop} (h0 : 0 ≤ i) (H : ∀ v, k v) : w_L_lot X L i k := by
  unfold w_L_lot
  by_cases c : i < L
  · rw [if_pos c]; exact ⟨⟨h0, c⟩, H _⟩
  · rw [if_neg c]; exact H _
theorem hPush_last (h : List aS) (s : aS) : (hPush h s).getLast? = some s := by
  unfold hPush
  simp
theorem hPush_len (h : List aS) (s : aS) : 1 ≤ (hPush h s).length := by
  unfold hPush
  simp
theorem undo_some {a : aA} {s : aS} (h : (aH a).getLast? = some s) : a_undo a = (((aH a).length : Int) - 1, (s, (aH a).dropLast, aT a, aP a)) := by
  unfold a_undo
  rw [h]
theorem undo_none {a : aA} (h : (aH a).getLast? = none) : a_undo a = (-1000007, a) := by
  unfold a_undo
  rw [h]
set_option maxHeartbeats 1000000 in
theorem lo40 {X : Int → Int} {L : Int} {N : Nat} {kx : Int → jM → Prop} (hN : 300 ≤ N) (K : ∀ (M' : jM) (a' : aA), XR M' a' → kx 1 M') : ∀ (d n p : Nat) (M : jM) (a : aA), d < n → p + d = 56 → XR M a → lp_L_law_40 X L N kx n 1 p M := by
  intro d
  induction d with
  | zero =>
    intro n p M a hn hp hX
    obtain ⟨n, rfl⟩ : ∃ q, n = q + 1 := ⟨n - 1, by omega⟩
    rw [lp_L_law_40, if_neg (by omega)]
    exact K M a hX
  | succ d ih =>
    intro n p M a hn hp hX
    obtain ⟨n, rfl⟩ : ∃ q, n = q + 1 := ⟨n - 1, by omega⟩
    have next : ∀ (M' : jM) (a' : aA), XR M' a' → jL (jW ((p : Int) + 1)) (fun x24 => lp_L_law_40 X L N kx n 1 x24 M') := by
      intro M' a' hX'
      refine jL_w (by omega) (fun q hq => ?_)
      subst hq
      exact ih n (p + 1) M' a' (by omega) (by omega) hX'
    rw [lp_L_law_40, if_pos (by omega), if_neg (by omega)]
    rw [jW_id (by omega : jR (2 * (p : Int)))]
    refine lot_k (by omega) (fun x13 => ?_)
    rw [jW_id (by omega)]
    refine lot_k (by omega) (fun x14 => ?_)
    obtain ⟨lk, hlk⟩ := look_ex (aNow a) hX.aok
    refine hlk N M a _ hN hX rfl ?_
    refine acts_k hN hX (fun M17 a1 hX17 st => ?_)
    refine jL_s2 (fun x18 M20 => x18 = 1 ∧ XR M20 a1) (fun j hj => ?_) (fun x18 M20 h18 => ?_)
    · rw [if_neg (by omega)]
      refine jL_s (fun M38 => XR M38 a1) (fun j2 hj2 => ?_) (fun M38 h38 => ?_)
      · by_cases c : jRem (p : Int) 4 ≤ 0
        · rw [if_pos c]
          refine holds_k hN hX17 (fun M42 hX42 => ?_)
          rw [if_neg (by omega)]
          exact hj2 _ hX42
        · rw [if_neg c]
          exact hj2 _ hX17
      · by_cases c : jRem (p : Int) 3 = 2
        · rw [if_pos c]
          refine would_k hN h38 (fun M40 hX40 => ?_)
          rw [if_neg (by omega)]
          exact hj _ _ ⟨rfl, hX40⟩
        · rw [if_neg c]
          exact hj _ _ ⟨rfl, h38⟩
    obtain ⟨h18, hX20⟩ := h18
    subst h18
    refine jL_s2 (fun x21 M23 => x21 = 1 ∧ ∃ a2, XR M23 a2) (fun j hj => ?_) (fun x21 M23 h21 => ?_)
    · rw [if_neg (by omega)]
      rcases st with st | st
      · refine hlk N M20 a1 _ hN hX20 st.1 ?_
        rw [if_pos (jLc_0.mpr rfl)]
        exact hj _ _ ⟨rfl, a1, hX20⟩
      · obtain ⟨lk1, hlk1⟩ := look_ex (aNow a1) hX20.aok
        refine hlk1 N M20 a1 _ hN hX20 rfl ?_
        by_cases c : jLc lk1 lk = 0
        · rw [if_pos c]
          exact hj _ _ ⟨rfl, a1, hX20⟩
        · rw [if_neg c]
          refine low_k (by omega) (by omega) (fun x33 _ _ => ?_)
          by_cases c2 : x33 = 0
          · rw [if_pos c2]
            refine v_undo hN hX20 (fun t M35 ht hX35 => ?_)
            have e : (aH a1).getLast? = some (aNow a) := by rw [st]; exact hPush_last _ _
            have e2 : 1 ≤ (aH a1).length := by rw [st]; exact hPush_len _ _
            rw [undo_some e] at ht hX35
            have ht : t = ((aH a1).length : Int) - 1 := ht
            rw [if_neg (by omega)]
            refine hlk N M35 _ _ hN hX35 rfl ?_
            rw [if_pos (jLc_0.mpr rfl)]
            exact hj _ _ ⟨rfl, _, hX35⟩
          · rw [if_neg c2]
            exact hj _ _ ⟨rfl, a1, hX20⟩
    obtain ⟨h21, a2, hX23⟩ := h21
    subst h21
    rw [if_neg (by omega)]
    by_cases c : jRem (p : Int) 11 = 10
    · rw [if_pos c]
      refine v_undo hN hX23 (fun t M26 ht hX26 => ?_)
      have h4 : (aH a2).length ≤ 4 := hX23.2.2.1
      cases hl : (aH a2).getLast? with
      | none =>
        rw [undo_none hl] at ht hX26
        rw [if_pos ht]
        exact next M26 _ hX26
      | some s =>
        rw [undo_some hl] at ht hX26
        have ht : t = ((aH a2).length : Int) - 1 := ht
        have e2 : 1 ≤ (aH a2).length := by
          cases hh : aH a2 with
          | nil => rw [hh] at hl; exact absurd hl (by simp)
          | cons x l => simp
        rw [if_neg (by omega), if_neg (by omega), if_pos (by omega)]
        exact next M26 _ hX26
    · rw [if_neg c]
      exact next M23 a2 hX23
theorem law_ok {X : Int → Int} {L : Int} {M : jM} {a : aA} (hX : XR M a) (ha : aH a = []) : w_L_law X L 6000 M := by
  have hN : 300 ≤ 6000 := by decide
  unfold w_L_law
  refine holds_k hN hX (fun M2 hX2 => ?_)
  refine jL_s2 (fun x3 M5 => x3 = 1 ∧ ∃ a', XR M5 a') (fun j hj => ?_) (fun x3 M5 h3 => ?_)
  · rw [if_neg (by omega)]
    refine would_k hN hX2 (fun M3 hX3 => ?_)
    rw [if_neg (by omega)]
    refine v_undo hN hX3 (fun t M4 ht hX4 => ?_)
    rw [undo_none (by rw [ha]; rfl)] at ht hX4
    rw [if_pos ht]
    exact hj _ _ ⟨rfl, _, hX4⟩
  obtain ⟨h3, a', hX5⟩ := h3
  subst h3
  refine lo40 hN (fun M9 a9 hX9 => ?_) 56 6000 0 M5 a' (by omega) (by omega) hX5
  rw [if_neg (by omega)]
  refine holds_k hN hX9 (fun M10 hX10 => ?_)
  rw [if_neg (by omega)]
  trivial
