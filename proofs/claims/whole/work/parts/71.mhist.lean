/-! THE REFERENCE'S HISTORY: begins, keeps, undo -/
theorem jC_0 {M : jM} {s sp d dp : Int} : jC M s sp d dp 0 = M := by
  funext c i
  unfold jC
  rw [if_neg (by omega)]
theorem jC_next {M : jM} {s sp d dp p : Int} (h : s ≠ d) (hp : 0 ≤ p) : jU (jC M s sp d dp p) d (dp + p) (jC M s sp d dp p s (sp + p)) = jC M s sp d dp (p + 1) := by
  funext c i
  unfold jU jC
  by_cases h1 : c = d ∧ i = dp + p
  · rw [if_pos h1, if_neg (fun z => h z.1), if_pos (by omega)]
    congr 1
    omega
  · rw [if_neg h1]
    by_cases h2 : c = d ∧ dp ≤ i ∧ i < dp + p
    · rw [if_pos h2, if_pos (by omega)]
    · rw [if_neg h2, if_neg (by omega)]
theorem copies_lp {M : jM} {a1 a2 a3 a4 : Int} {kx : jM → Prop} (ha : a1 ≠ a3) (h1 : 0 ≤ a2 ∧ a2 + 1115 ≤ jK a1 % 10000 ∧ jK a1 % 10000 < 10000) (h2 : 0 ≤ a4 ∧ a4 + 1115 ≤ jK a3 % 10000 ∧ jK a3 % 10000 < 10000) (H : kx (jC M a1 a2 a3 a4 1115)) : ∀ (d n p : Nat), d < n → p + d = 1115 → lp_X7_copies_3 a1 a2 a3 a4 kx n p (jC M a1 a2 a3 a4 p) := by
  intro d
  induction d with
  | zero =>
    intro n p hn hp
    obtain ⟨n, rfl⟩ : ∃ m, n = m + 1 := ⟨n - 1, by omega⟩
    have : p = 1115 := by omega
    subst this
    rw [lp_X7_copies_3, if_neg (by omega)]
    exact H
  | succ d ih =>
    intro n p hn hp
    obtain ⟨n, rfl⟩ : ∃ m, n = m + 1 := ⟨n - 1, by omega⟩
    rw [lp_X7_copies_3, if_pos (by omega), jW_id (a := a2 + p) (by omega), jW_id (a := a4 + p) (by omega), jC_next ha (by omega)]
    simp (disch := omega) only [jL, jW_id]
    exact ⟨by omega, by omega, ih n (p + 1) (by omega) (by omega)⟩
theorem copies_k {N : Nat} {M : jM} {a1 a2 a3 a4 : Int} {k : jM → Prop} (hN : 5000 ≤ N) (ha : a1 ≠ a3) (h1 : 0 ≤ a2 ∧ a2 + 1115 ≤ jK a1 % 10000 ∧ jK a1 % 10000 < 10000) (h2 : 0 ≤ a4 ∧ a4 + 1115 ≤ jK a3 % 10000 ∧ jK a3 % 10000 < 10000) (H : k (jC M a1 a2 a3 a4 1115)) : w_X7_copies N M a1 a2 a3 a4 k := by
  have := copies_lp (kx := k) (M := M) ha h1 h2 H 1115 N 0 (by omega) (by omega)
  rw [show ((0 : Nat) : Int) = 0 from rfl, jC_0] at this
  exact this
theorem k253 : jK 253 % 10000 = 1115 := by decide
theorem k254 : jK 254 % 10000 = 1115 := by decide
theorem k255 : jK 255 % 10000 = 4460 := by decide
theorem begins_k {N : Nat} {M : jM} {k : jM → Prop} (hN : 5000 ≤ N) (H : k (jC M 253 0 254 0 1115)) : w_X7_begins N M 252 k := by
  unfold w_X7_begins
  simp only [Int.reduceAdd]
  exact copies_k hN (by omega) (by rw [k253]; omega) (by rw [k254]; omega) H
theorem MR.set {M M' : jM} {n0 n : aS} {hs : List aS} {T P : List Int} (h : MR M (n0, hs, T, P)) (e3 : M' 252 3 = M 252 3) (e5 : M' 252 5 = M 252 5) (e7 : M' 252 7 = M 252 7) (e255 : M' 255 = M 255) (e256 : M' 256 = M 256) (e257 : M' 257 = M 257) (hn : MS M' 253 0 n) : MR M' (n, hs, T, P) := by
  obtain ⟨h1, h2, h3, h4, h5, h6, h7, h8, h9, h10⟩ := h
  exact ⟨hn, by rw [e3]; exact h2, h3, fun i s hi => (h4 i s hi).move (fun j _ _ => by rw [e255]), by rw [e5]; exact h5, h6, fun i x hi => by rw [e256]; exact h7 i x hi, by rw [e7]; exact h8, h9, fun i x hi => by rw [e257]; exact h10 i x hi⟩
theorem MR.now {M : jM} {a : aA} (h : MR M a) : MS M 253 0 (aNow a) := h.1
def shP (M : jM) (p : Int) : jM := fun c i => if c = 255 ∧ 0 ≤ i ∧ i < p then M 255 (i + 1115) else M c i
theorem shP_0 {M : jM} : shP M 0 = M := by
  funext c i
  unfold shP
  rw [if_neg (by omega)]
theorem shP_next {M : jM} {p : Int} (hp : 0 ≤ p) : jU (shP M p) 255 p (shP M p 255 (p + 1115)) = shP M (p + 1) := by
  funext c i
  unfold jU shP
  by_cases h1 : c = 255 ∧ i = p
  · rw [if_pos h1, if_neg (by omega), if_pos (by omega), h1.2]
  · rw [if_neg h1]
    by_cases h2 : c = 255 ∧ 0 ≤ i ∧ i < p
    · rw [if_pos h2, if_pos (by omega)]
    · rw [if_neg h2, if_neg (by omega)]
theorem keeps_lp {M : jM} {kx : jM → Prop} (H : kx (shP M 3345)) : ∀ (d n p : Nat), d < n → p + d = 3345 → lp_X7_keeps_18 252 kx n p (shP M p) := by
  intro d
  induction d with
  | zero =>
    intro n p hn hp
    obtain ⟨n, rfl⟩ : ∃ m, n = m + 1 := ⟨n - 1, by omega⟩
    have : p = 3345 := by omega
    subst this
    rw [lp_X7_keeps_18, if_neg (by omega)]
    exact H
  | succ d ih =>
    intro n p hn hp
    obtain ⟨n, rfl⟩ : ∃ m, n = m + 1 := ⟨n - 1, by omega⟩
    rw [lp_X7_keeps_18, if_pos (by omega), jW_id (a := (p : Int) + 1115) (by omega)]
    simp only [Int.reduceAdd]
    rw [shP_next (by omega)]
    simp (disch := omega) only [jL, jW_id]
    exact ⟨by omega, by omega, ih n (p + 1) (by omega) (by omega)⟩
theorem keepsPush_k {N : Nat} {M : jM} {n b : aS} {hs : List aS} {T P : List Int} {told : Int} {k : Int → jM → Prop} (hN : 5000 ≤ N) (h : MR M (n, hs, T, P)) (hB : MS M 254 0 b) (hl : hs.length < 4) (H : ∀ M', frM M M' → MR M' (n, hs ++ [b], T, P) → k told M') : w_X7_copies N M 254 0 255 (jW (1115 * (M 252 3))) (fun M3 => (jL (jU M3 252 3 (jW ((M3 252 3) + 1))) (fun M4 => (k told M4)))) := by
  have h2 : M 252 3 = (hs.length : Nat) := h.2.1
  rw [h2, jW_id (by omega)]
  refine copies_k hN (by omega) (by rw [k254]; omega) (by rw [k255]; omega) ?_
  simp only [jL]
  rw [jC_row (x := 252) (by omega), h2, jW_id (by omega)]
  obtain ⟨q1, q2, q3, q4, q5, q6, q7, q8, q9, q10⟩ := h
  have c1 : ∀ c : Int, c ≠ 252 → c ≠ 255 → jU (jC M 254 0 255 (1115 * ((hs.length : Nat) : Int)) 1115) 252 3 (((hs.length : Nat) : Int) + 1) c = M c := fun c a b => by rw [jU_row a, jC_row b]
  have c2 : ∀ i : Int, i ≠ 3 → jU (jC M 254 0 255 (1115 * ((hs.length : Nat) : Int)) 1115) 252 3 (((hs.length : Nat) : Int) + 1) 252 i = M 252 i := fun i hi => by
    unfold jU
    rw [if_neg (fun z => hi z.2), jC_row (by omega)]
  refine H _ (fun c hc => c1 c (by omega) (by omega)) ⟨q1.move (fun j _ _ => by rw [c1 253 (by omega) (by omega)]), by simp [jU, aH], by show (hs ++ [b]).length ≤ 4; simp; omega, fun i s hi => ?_, by rw [c2 5 (by omega)]; exact q5, q6, fun i x hi => by rw [c1 256 (by omega) (by omega)]; exact q7 i x hi, by rw [c2 7 (by omega)]; exact q8, q9, fun i x hi => by rw [c1 257 (by omega) (by omega)]; exact q10 i x hi⟩
  have hi : (hs ++ [b])[i]? = some s := hi
  by_cases z : i < hs.length
  · rw [List.getElem?_append_left z] at hi
    refine (q4 i s hi).move (fun j j0 j1 => ?_)
    rw [jU_row (by omega)]
    unfold jC
    rw [if_neg (by omega)]
  · have hz : i = hs.length := by
      have := (List.getElem?_eq_some_iff.mp hi).1
      simp at this
      omega
    subst hz
    have : b = s := by simpa using hi
    subst this
    refine hB.move (fun j j0 j1 => ?_)
    rw [jU_row (by omega)]
    unfold jC
    rw [if_pos (by omega)]
    congr 1
    omega
theorem shP_MR {M : jM} {n : aS} {hs : List aS} {T P : List Int} (h : MR M (n, hs, T, P)) (hl : hs.length = 4) : MR (jU (shP M 3345) 252 3 3) (n, hs.drop 1, T, P) := by
  obtain ⟨q1, q2, q3, q4, q5, q6, q7, q8, q9, q10⟩ := h
  have c1 : ∀ c : Int, c ≠ 252 → c ≠ 255 → jU (shP M 3345) 252 3 3 c = M c := fun c a b => by
    rw [jU_row a]
    funext i
    unfold shP
    rw [if_neg (fun z => b z.1)]
  have c2 : ∀ i : Int, i ≠ 3 → jU (shP M 3345) 252 3 3 252 i = M 252 i := fun i hi => by
    unfold jU
    rw [if_neg (fun z => hi z.2)]
    unfold shP
    rw [if_neg (by omega)]
  refine ⟨q1.move (fun j _ _ => by rw [c1 253 (by omega) (by omega)]), by simp [jU, aH, hl], by show (hs.drop 1).length ≤ 4; simp; omega, fun i s hi => ?_, by rw [c2 5 (by omega)]; exact q5, q6, fun i x hi => by rw [c1 256 (by omega) (by omega)]; exact q7 i x hi, by rw [c2 7 (by omega)]; exact q8, q9, fun i x hi => by rw [c1 257 (by omega) (by omega)]; exact q10 i x hi⟩
  have hi : (hs.drop 1)[i]? = some s := hi
  rw [List.getElem?_drop] at hi
  have hlt : 1 + i < hs.length := (List.getElem?_eq_some_iff.mp hi).1
  refine (q4 (1 + i) s hi).move (fun j j0 j1 => ?_)
  rw [jU_row (by omega)]
  unfold shP
  rw [if_pos (by omega)]
  congr 1
  omega
theorem keeps_k {N : Nat} {M : jM} {n b : aS} {hs : List aS} {T P : List Int} {told : Int} {k : Int → jM → Prop} (hN : 5000 ≤ N) (h : MR M (n, hs, T, P)) (hB : MS M 254 0 b) (ht : -1000001 < told) (H : ∀ M', frM M M' → MR M' (n, hPush hs b, T, P) → k told M') : w_X7_keeps N M 252 told k := by
  unfold w_X7_keeps
  rw [if_neg (by omega)]
  have h2 : M 252 3 = (hs.length : Nat) := h.2.1
  have h3 : hs.length ≤ 4 := h.2.2.1
  simp only [Int.reduceAdd]
  unfold hPush at H
  by_cases z : hs.length = 4
  · rw [if_pos z] at H
    conv => rw [jL]
    rw [if_pos (by omega)]
    have := keeps_lp (M := M) (kx := (fun (M7 : jM) => (jL (jU M7 252 3 (jW ((M7 252 3) - 1))) (fun M8 => w_X7_copies N M8 254 0 255 (jW (1115 * (M8 252 3))) (fun M3 => (jL (jU M3 252 3 (jW ((M3 252 3) + 1))) (fun M4 => (k told M4)))))))) ?_ 3345 N 0 (by omega) (by omega)
    · rw [show ((0 : Nat) : Int) = 0 from rfl, shP_0] at this
      exact this
    · have e : shP M 3345 252 3 = 4 := by
        unfold shP
        rw [if_neg (by omega), h2]
        omega
      simp only [jL]
      rw [e, show jW (4 - 1) = 3 by decide]
      have hB' : MS (jU (shP M 3345) 252 3 3) 254 0 b := hB.move (fun j _ _ => by
        rw [jU_row (by omega)]
        unfold shP
        rw [if_neg (by omega)])
      refine keepsPush_k hN (shP_MR h z) hB' (by simp; omega) (fun M' f hM => H M' (fun c hc => ?_) hM)
      rw [f c hc, jU_row (by omega)]
      funext i
      unfold shP
      rw [if_neg (by omega)]
  · rw [if_neg z] at H
    conv => rw [jL]
    rw [if_neg (by omega)]
    exact keepsPush_k hN h hB (by omega) H
theorem keepsNo_k {N : Nat} {M : jM} {told : Int} {k : Int → jM → Prop} (ht : told ≤ -1000001) (H : k told M) : w_X7_keeps N M 252 told k := by
  unfold w_X7_keeps
  rw [if_pos ht]
  exact H
theorem msUndo_k {N : Nat} {M : jM} {a : aA} {k : Int → jM → Prop} (hN : 5000 ≤ N) (hM : MR M a) (H : ∀ M', frM M M' → MR M' (a_undo a).2 → k (a_undo a).1 M') : w_X7_undo N M 252 k := by
  obtain ⟨n, hs, T, P⟩ := a
  have h2 : M 252 3 = (hs.length : Nat) := hM.2.1
  have h3 : hs.length ≤ 4 := hM.2.2.1
  unfold w_X7_undo
  simp only [Int.reduceAdd]
  unfold a_undo at H
  cases hl : (aH (n, hs, T, P)).getLast? with
  | none =>
    rw [hl] at H
    have : hs = [] := List.getLast?_eq_none_iff.mp hl
    rw [h2, if_pos (by rw [this]; rfl)]
    exact H M (fun _ _ => rfl) hM
  | some s =>
    rw [hl] at H
    have hl : hs.getLast? = some s := hl
    have hne : hs ≠ [] := fun e => by rw [e] at hl; simp at hl
    have hpos := List.length_pos_iff.mpr hne
    rw [h2, if_neg (by omega)]
    simp only [jL]
    rw [jW_id (by omega)]
    have e : jU M 252 3 (((hs.length : Nat) : Int) - 1) 252 3 = ((hs.length : Nat) : Int) - 1 := by simp [jU]
    rw [e, jW_id (by omega)]
    refine copies_k hN (by omega) (by rw [k255]; omega) (by rw [k253]; omega) ?_
    obtain ⟨q1, q2, q3, q4, q5, q6, q7, q8, q9, q10⟩ := hM
    have c1 : ∀ c : Int, c ≠ 252 → c ≠ 253 → jC (jU M 252 3 (((hs.length : Nat) : Int) - 1)) 255 (1115 * (((hs.length : Nat) : Int) - 1)) 253 0 1115 c = M c := fun c a b => by rw [jC_row b, jU_row a]
    have c2 : ∀ i : Int, i ≠ 3 → jC (jU M 252 3 (((hs.length : Nat) : Int) - 1)) 255 (1115 * (((hs.length : Nat) : Int) - 1)) 253 0 1115 252 i = M 252 i := fun i hi => by
      rw [jC_row (by omega)]
      unfold jU
      rw [if_neg (fun z => hi z.2)]
    rw [jC_row (x := 252) (by omega), e]
    have hls : hs[hs.length - 1]? = some s := by rw [← hl, List.getLast?_eq_getElem?]
    refine H _ (fun c hc => c1 c (by omega) (by omega)) ⟨(q4 _ s hls).move (fun j j0 j1 => ?_), ?_, by show hs.dropLast.length ≤ 4; simp; omega, fun i s' hi => ?_, by rw [c2 5 (by omega)]; exact q5, q6, fun i x hi => by rw [c1 256 (by omega) (by omega)]; exact q7 i x hi, by rw [c2 7 (by omega)]; exact q8, q9, fun i x hi => by rw [c1 257 (by omega) (by omega)]; exact q10 i x hi⟩
    · unfold jC
      rw [if_pos (by omega), jU_row (by omega)]
      congr 1
      omega
    · rw [jC_row (by omega), e]
      show _ = ((hs.dropLast.length : Nat) : Int)
      rw [List.length_dropLast]
      omega
    · have hi : hs.dropLast[i]? = some s' := hi
      have hi2 : hs[i]? = some s' := by
        rw [List.getElem?_dropLast] at hi
        split at hi
        · exact hi
        · simp at hi
      exact (q4 i s' hi2).move (fun j _ _ => by rw [c1 255 (by omega) (by omega)])
