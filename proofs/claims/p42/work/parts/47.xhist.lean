/-! THE CLASS'S HISTORY -/
theorem XR.now {M : jM} {a : aA} (h : XR M a) : XS M 1 (aNow a) := h.1
theorem XR.setNow {M M' : jM} {a : aA} {n : aS} (h : XR M a) (e : ∀ c : Int, (c < 1 ∨ 48 ≤ c) → M' c = M c) (hn : XS M' 1 n) : XR M' (n, aH a, aT a, aP a) := by
  obtain ⟨h1, h2, h3, h4, h5, h6, h7, h8, h9, h10, h11, h12, h13, h14⟩ := h
  have e48 := e 48 (by omega)
  have pin : ∀ i : Int, 0 ≤ i → i < 4 → 48 < M 48 i ∧ M 48 i < 191 := fun i h0 h1 => by obtain ⟨q, a1, a2, a3⟩ := h4 i h0 h1; omega
  refine ⟨hn, by rw [e 0 (by omega)]; exact h2, h3, fun i h0 h1 => by rw [e48]; exact h4 i h0 h1, fun i j a b c d => by rw [e48]; exact h5 i j a b c d, fun i h0 h1 j a b => by have := pin i h0 h1; rw [e48, e _ (by omega)]; exact h6 i h0 h1 j a b, fun i h0 h1 j k a b c d => by have := pin i h0 h1; rw [e48, e _ (by omega)]; exact h7 i h0 h1 j k a b c d, fun i s hi => ?_, by rw [e 237 (by omega)]; exact h9, h10, fun i x hi => by rw [e 238 (by omega)]; exact h11 i x hi, by rw [e 239 (by omega)]; exact h12, h13, fun i x hi => by rw [e 240 (by omega)]; exact h14 i x hi⟩
  have hi : (aH a)[i]? = some s := hi
  have hl : i < (aH a).length := (List.getElem?_eq_some_iff.mp hi).1
  have := pin i (by omega) (by omega)
  rw [e48]
  exact (h8 i s hi).congr (fun c h0 h1 => e c (by omega))
theorem XR.past {M : jM} {a : aA} (h : XR M a) {i : Int} (h0 : 0 ≤ i) (h1 : i < 4) : ∃ q : Int, 0 ≤ q ∧ q < 4 ∧ M 48 i = 49 + 47 * q := h.2.2.2.1 i h0 h1
theorem XR.papart {M : jM} {a : aA} (h : XR M a) {i j : Int} (h0 : 0 ≤ i) (h1 : i < 4) (h2 : 0 ≤ j) (h3 : j < 4) (e : i ≠ j) : M 48 i + 47 ≤ M 48 j ∨ M 48 j + 47 ≤ M 48 i := by
  obtain ⟨q, a1, a2, a3⟩ := h.past h0 h1
  obtain ⟨t, b1, b2, b3⟩ := h.past h2 h3
  have : M 48 i ≠ M 48 j := fun z => e (h.2.2.2.2.1 i j h0 h1 h2 h3 z)
  omega
theorem XR.prok {M : jM} {a : aA} (h : XR M a) {i : Int} (h0 : 0 ≤ i) (h1 : i < 4) : rOK M (M 48 i) := ⟨h.2.2.2.2.2.1 i h0 h1, fun j k a b c d => h.2.2.2.2.2.2.1 i h0 h1 j k a b c d⟩
def pushBody (N : Nat) (M2 : jM) (k : jM → Prop) : Prop := jB (M2 0 2) 4 ∧ (w_X4_copyState N M2 (M2 (0 + 48) (M2 0 2)) (0 + 1) (fun M5 => (jL (jU M5 0 2 (jW ((M5 0 2) + 1))) (fun M6 => (k M6)))))
theorem push_k {N : Nat} {M : jM} {a : aA} {k : jM → Prop} (hN : 100 ≤ N) (hX : XR M a) (hl : (aH a).length < 4) (h : ∀ M', (∀ c : Int, (1 ≤ c ∧ c < 48) ∨ 237 ≤ c → M' c = M c) → XR M' (aNow a, aH a ++ [aNow a], aT a, aP a) → k M') : pushBody N M k := by
  have h2 := hX.2.1
  unfold pushBody
  rw [h2]
  refine ⟨by omega, ?_⟩
  simp only [jL]
  have hp := hX.past (i := ((aH a).length : Int)) (by omega) (by omega)
  have hrk := hX.prok (i := ((aH a).length : Int)) (by omega) (by omega)
  rw [show (0 : Int) + 48 = 48 from rfl, show (0 : Int) + 1 = 1 from rfl]
  generalize hr : M 48 ((aH a).length : Int) = r at hp hrk ⊢
  obtain ⟨q, q0, q1, q2⟩ := hp
  refine copyState_k hN hX.now hrk (by omega) (fun M5 e1 e2 hs => ?_)
  rw [e1 0 (by omega), h2, jW_id (by omega)]
  have e : ∀ c : Int, c ≠ 0 → (c < r ∨ r + 47 ≤ c) → jU M5 0 2 (((aH a).length : Int) + 1) c = M c := fun c hc hc2 => by rw [jU_row hc]; exact e1 c hc2
  have e48 := e 48 (by omega) (by omega)
  obtain ⟨h1, h2, h3, h4, h5, h6, h7, h8, h9, h10, h11, h12, h13, h14⟩ := hX
  have inr : jU M5 0 2 (((aH a).length : Int) + 1) (r + 1) = M (r + 1) := by rw [jU_row (by omega)]; exact e2
  have row : ∀ i : Int, 0 ≤ i → i < 4 → jU M5 0 2 (((aH a).length : Int) + 1) (M 48 i + 1) = M (M 48 i + 1) := by
    intro i h0 h1
    by_cases z : i = (aH a).length
    · rw [z, hr]; exact inr
    · obtain ⟨t, t0, t1, t2⟩ := h4 i h0 h1
      have : M 48 i ≠ r := fun y => z (h5 i _ h0 h1 (by omega) (by omega) (y.trans hr.symm))
      exact e _ (by omega) (by omega)
  refine h _ (fun c hc => e c (by omega) (by omega)) ⟨h1.congr (fun c h0 h1 => e c (by omega) (by omega)), ?_, ?_, fun i h0 h1 => by rw [e48]; exact h4 i h0 h1, fun i j a b c d => by rw [e48]; exact h5 i j a b c d, fun i h0 h1 j a b => by rw [e48, row i h0 h1]; exact h6 i h0 h1 j a b, fun i h0 h1 j k a b c d => by rw [e48, row i h0 h1]; exact h7 i h0 h1 j k a b c d, fun i s hi => ?_, by rw [e 237 (by omega) (by omega)]; exact h9, h10, fun i x hi => by rw [e 238 (by omega) (by omega)]; exact h11 i x hi, by rw [e 239 (by omega) (by omega)]; exact h12, h13, fun i x hi => by rw [e 240 (by omega) (by omega)]; exact h14 i x hi⟩
  · show jU M5 0 2 _ 0 2 = ((aH a ++ [aNow a]).length : Nat)
    simp [jU]
  · show (aH a ++ [aNow a]).length ≤ 4
    simp
    omega
  · have hi : (aH a ++ [aNow a])[i]? = some s := hi
    rw [e48]
    by_cases z : i < (aH a).length
    · have hi2 : (aH a)[i]? = some s := by grind
      obtain ⟨t, t0, t1, t2⟩ := h4 i (by omega) (by omega)
      have : M 48 i ≠ r := fun y => by have := h5 i _ (by omega) (by omega) (by omega) (by omega) (y.trans hr.symm); omega
      exact (h8 i s hi2).congr (fun c h0 h1 => e c (by omega) (by omega))
    · have z2 : i = (aH a).length := by grind
      have hs2 : s = aNow a := by grind
      subst z2
      subst hs2
      rw [hr]
      exact hs.congr (fun c h0 h1 => jU_row (by omega))
def doC (M : jM) : jM := fun c i => if c = 48 ∧ 0 ≤ i ∧ i < 3 then M 48 (i + 1) else if c = 48 ∧ i = 3 then M 48 0 else if c = 0 ∧ i = 2 then 3 else M c i
theorem dropOldest_eq {N : Nat} {M : jM} (hN : 100 ≤ N) {k : jM → Prop} (h : k (doC M)) : w_X6_dropOldest N M 0 k := by
  obtain ⟨n, rfl⟩ : ∃ m, N = m + 5 := ⟨N - 5, by omega⟩
  unfold w_X6_dropOldest
  simp (disch := omega) only [lp_X6_dropOldest_9, jL, jB, jW_id]
  have e : jU (jU (jU (jU (jU M 48 0 (M 48 1)) 48 1 (jU M 48 0 (M 48 1) 48 2)) 48 2 (jU (jU M 48 0 (M 48 1)) 48 1 (jU M 48 0 (M 48 1) 48 2) 48 3)) 48 3 (M 48 0)) 0 2 3 = doC M := by
    funext c i
    simp only [jU, doC]
    grind (splits := 30)
  rw [← e] at h
  simpa using h
theorem doC_XR {M : jM} {a : aA} (h : XR M a) (hl : (aH a).length = 4) : XR (doC M) (aNow a, (aH a).drop 1, aT a, aP a) := by
  obtain ⟨h1, h2, h3, h4, h5, h6, h7, h8, h9, h10, h11, h12, h13, h14⟩ := h
  have e : ∀ c : Int, c ≠ 0 → c ≠ 48 → doC M c = M c := fun c a b => by funext i; simp [doC, a, b]
  have p : ∀ i : Int, 0 ≤ i → i < 4 → doC M 48 i = M 48 (if i = 3 then 0 else i + 1) := by
    intro i h0 h1
    simp only [doC]
    grind
  have pin : ∀ i : Int, 0 ≤ i → i < 4 → 48 < M 48 i ∧ M 48 i < 191 := fun i h0 h1 => by obtain ⟨q, a1, a2, a3⟩ := h4 i h0 h1; omega
  refine ⟨h1.congr (fun c h0 h1 => e c (by omega) (by omega)), ?_, ?_, fun i h0 h1 => by rw [p i h0 h1]; exact h4 _ (by omega) (by omega), fun i j a b c d => by rw [p i a b, p j c d]; intro z; have := h5 _ _ (by omega) (by omega) (by omega) (by omega) z; omega, fun i h0 h1 j a b => ?_, fun i h0 h1 j k a b c d => ?_, fun i s hi => ?_, by rw [e 237 (by omega) (by omega)]; exact h9, h10, fun i x hi => by rw [e 238 (by omega) (by omega)]; exact h11 i x hi, by rw [e 239 (by omega) (by omega)]; exact h12, h13, fun i x hi => by rw [e 240 (by omega) (by omega)]; exact h14 i x hi⟩
  · show doC M 0 2 = (((aH a).drop 1).length : Nat)
    simp [doC, hl]
  · show ((aH a).drop 1).length ≤ 4
    simp; omega
  · have := pin (if i = 3 then 0 else i + 1) (by omega) (by omega)
    rw [p i h0 h1, e _ (by omega) (by omega)]
    exact h6 _ (by omega) (by omega) j a b
  · have := pin (if i = 3 then 0 else i + 1) (by omega) (by omega)
    rw [p i h0 h1, e _ (by omega) (by omega)]
    exact h7 _ (by omega) (by omega) j k a b c d
  · have hi : ((aH a).drop 1)[i]? = some s := hi
    have hi2 : (aH a)[i + 1]? = some s := by grind
    have hlt : i < 3 := by grind
    rw [p i (by omega) (by omega), if_neg (by omega), show (i : Int) + 1 = ((i + 1 : Nat) : Int) by omega]
    have := pin ((i + 1 : Nat) : Int) (by omega) (by omega)
    exact (h8 (i + 1) s hi2).congr (fun c h0 h1 => e c (by omega) (by omega))
theorem remember_k {N : Nat} {M : jM} {a : aA} {k : jM → Prop} (hN : 100 ≤ N) (hX : XR M a) (h : ∀ M', (∀ c : Int, (1 ≤ c ∧ c < 48) ∨ 237 ≤ c → M' c = M c) → XR M' (aNow a, hPush (aH a) (aNow a), aT a, aP a) → k M') : w_X6_remember N M 0 k := by
  unfold w_X6_remember
  show if M 0 2 < 4 then pushBody N M k else w_X6_dropOldest N M 0 (fun M7 => pushBody N M7 k)
  rw [hX.2.1]
  have h3 := hX.2.2.1
  by_cases z : (aH a).length = 4
  · rw [if_neg (by omega)]
    refine dropOldest_eq hN (push_k hN (doC_XR hX z) (by show ((aH a).drop 1).length < 4; simp; omega) (fun M' e hx => h M' (fun c hc => ?_) ?_))
    · rw [e c hc]
      funext i
      simp only [doC]
      rw [if_neg (by omega), if_neg (by omega), if_neg (by omega)]
    · unfold hPush
      rw [if_pos z]
      exact hx
  · rw [if_pos (by omega)]
    refine push_k hN hX (by omega) (fun M' e hx => h M' e ?_)
    unfold hPush
    rw [if_neg z]
    exact hx
theorem undo_k {N : Nat} {M : jM} {a : aA} {k : Int → jM → Prop} (hN : 100 ≤ N) (hX : XR M a) (h : ∀ M', frX M M' → XR M' (a_undo a).2 → k (a_undo a).1 M') : w_X6_undo N M 0 k := by
  have h2 := hX.2.1
  have h3 := hX.2.2.1
  unfold w_X6_undo
  rw [h2]
  cases hz : (aH a).getLast? with
  | none =>
    have hn : aH a = [] := by simpa using hz
    have e : a_undo a = (-1000007, a) := by unfold a_undo; rw [hz]
    rw [e] at h
    rw [if_pos (by simp [hn])]
    exact h M (fun _ _ => rfl) hX
  | some s =>
    have e : a_undo a = (((aH a).length : Int) - 1, (s, (aH a).dropLast, aT a, aP a)) := by unfold a_undo; rw [hz]
    rw [e] at h
    have hl : 0 < (aH a).length := by grind
    have hs : (aH a)[(aH a).length - 1]? = some s := by grind
    rw [if_neg (by omega)]
    simp (disch := omega) only [jL, jW_id]
    have e0 : ∀ c : Int, c ≠ 0 → jU M 0 2 (((aH a).length : Int) - 1) c = M c := fun c hc => jU_row hc
    have e1 : jU M 0 2 (((aH a).length : Int) - 1) 0 2 = (aH a).length - 1 := by simp [jU]
    rw [e1, show (0 : Int) + 48 = 48 from rfl, show (0 : Int) + 1 = 1 from rfl, e0 48 (by omega), show ((aH a).length : Int) - 1 = (((aH a).length - 1 : Nat) : Int) by omega]
    obtain ⟨q, q0, q1, q2⟩ := hX.past (i := (((aH a).length - 1 : Nat) : Int)) (by omega) (by omega)
    refine ⟨by omega, copyState_k hN (s := s) ((hX.2.2.2.2.2.2.2.1 _ s hs).congr (fun c h0 h1 => jU_row (by omega))) (by have := hX.now.rok; unfold rOK at this ⊢; rw [jU_row (by omega)]; exact this) (by omega) (fun M' f1 f2 hx => ?_)⟩
    rw [f1 0 (by omega)]
    have e2 : jU M 0 2 (((aH a).length - 1 : Nat) : Int) 0 2 = (((aH a).length - 1 : Nat) : Int) := by simp [jU]
    rw [e2, show (((aH a).length - 1 : Nat) : Int) = (aH a).length - 1 by omega]
    refine h M' (fun c hc => by rw [f1 c (by omega)]; exact jU_row (by omega)) ?_
    obtain ⟨h1, h2, h3, h4, h5, h6, h7, h8, h9, h10, h11, h12, h13, h14⟩ := hX
    have ee : ∀ c : Int, c ≠ 0 → (c < 1 ∨ 48 ≤ c) → M' c = M c := fun c hc hc2 => by rw [f1 c (by omega)]; exact jU_row hc
    have pin : ∀ i : Int, 0 ≤ i → i < 4 → 48 < M 48 i ∧ M 48 i < 191 := fun i h0 h1 => by obtain ⟨q, a1, a2, a3⟩ := h4 i h0 h1; omega
    have e48 := ee 48 (by omega) (by omega)
    refine ⟨hx, ?_, ?_, fun i h0 h1 => by rw [e48]; exact h4 i h0 h1, fun i j a b c d => by rw [e48]; exact h5 i j a b c d, fun i h0 h1 j a b => by have := pin i h0 h1; rw [e48, ee _ (by omega) (by omega)]; exact h6 i h0 h1 j a b, fun i h0 h1 j k a b c d => by have := pin i h0 h1; rw [e48, ee _ (by omega) (by omega)]; exact h7 i h0 h1 j k a b c d, fun i t hi => ?_, by rw [ee 237 (by omega) (by omega)]; exact h9, h10, fun i x hi => by rw [ee 238 (by omega) (by omega)]; exact h11 i x hi, by rw [ee 239 (by omega) (by omega)]; exact h12, h13, fun i x hi => by rw [ee 240 (by omega) (by omega)]; exact h14 i x hi⟩
    · show M' 0 2 = (((aH a).dropLast).length : Nat)
      rw [f1 0 (by omega), e2]
      simp
    · show ((aH a).dropLast).length ≤ 4
      simp; omega
    · have hi : ((aH a).dropLast)[i]? = some t := hi
      have hi2 : (aH a)[i]? = some t := by grind
      have hlt : i < (aH a).length - 1 := by grind
      have := pin i (by omega) (by omega)
      rw [e48]
      exact (h8 i t hi2).congr (fun c h0 h1 => ee c (by omega) (by omega))
