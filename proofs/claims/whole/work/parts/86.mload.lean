/-! what the record's cells hold of the fields read so far -/
def FV (M : jM) (o g : Int) (L : List (List Int)) : Prop := ∀ (j : Nat) (V : List Int), L[j]? = some V → M 253 (o + (6 + 5 * g + j)) = V.length ∧ ∀ (i : Nat) (x : Int), V[i]? = some x → M 253 (o + (26 + 20 * g + 4 * j + i)) = x
def FC (M : jM) (o g : Int) (L : List (List Int)) : Prop := M 253 (o + (2 + g)) = L.length ∧ FV M o g L ∧ ∀ j : Int, (L.length : Int) ≤ j → j < 5 → M 253 (o + (6 + 5 * g + j)) = 0
def SH (M : jM) (o g : Int) (L : List (List Int)) (V : List Int) : Prop := M 253 (o + (2 + g)) = 0 ∧ FV M o g L ∧ (∀ (i : Nat) (x : Int), V[i]? = some x → M 253 (o + (26 + 20 * g + 4 * L.length + i)) = x) ∧ ∀ j : Int, (L.length : Int) ≤ j → j < 5 → M 253 (o + (6 + 5 * g + j)) = 0
abbrev vOK (V : List Int) : Prop := 1 ≤ V.length ∧ V.length ≤ 4 ∧ ∀ x ∈ V, -999 ≤ x ∧ x ≤ 999
theorem fOK.at {L : List (List Int)} (h : fOK L) {j : Nat} {V : List Int} (hj : L[j]? = some V) : j < 5 ∧ vOK V := by
  have := (List.getElem?_eq_some_iff.mp hj).1
  exact ⟨by have := h.1; omega, h.2 V (List.mem_of_getElem? hj)⟩
theorem FV.move {M M' : jM} {o g : Int} {L : List (List Int)} (h : FV M o g L) (hL : fOK L) (e : ∀ i : Int, (6 + 5 * g ≤ i ∧ i < 6 + 5 * g + L.length) ∨ (26 + 20 * g ≤ i ∧ i < 26 + 20 * g + 4 * L.length) → M' 253 (o + i) = M 253 (o + i)) : FV M' o g L := by
  intro j V hj
  have hjl := (List.getElem?_eq_some_iff.mp hj).1
  have a := hL.at hj
  obtain ⟨b1, b2⟩ := h j V hj
  refine ⟨by rw [e _ (by omega)]; exact b1, fun i x hi => ?_⟩
  have := (List.getElem?_eq_some_iff.mp hi).1
  rw [e _ (by omega)]
  exact b2 i x hi
theorem FC.move {M M' : jM} {o g : Int} {L : List (List Int)} (h : FC M o g L) (hL : fOK L) (e : ∀ i : Int, i = 2 + g ∨ (6 + 5 * g ≤ i ∧ i < 11 + 5 * g) ∨ (26 + 20 * g ≤ i ∧ i < 46 + 20 * g) → M' 253 (o + i) = M 253 (o + i)) : FC M' o g L := by
  obtain ⟨h1, h2, h3⟩ := h
  have h5 := hL.1
  exact ⟨by rw [e _ (by omega)]; exact h1, h2.move hL (fun i hi => e i (by omega)), fun j j0 j1 => by rw [e _ (by omega)]; exact h3 j j0 j1⟩
theorem fOK_nil : fOK [] := ⟨by decide, fun V hV => by simp at hV⟩
theorem FV_nil {M : jM} {o g : Int} : FV M o g [] := fun j V hj => by simp at hj
def ST (r : Int) (M0 M : jM) (f : Int) (F : rF) (L : List (List Int)) (V : List Int) : Prop :=
  (∀ c : Int, c ≠ 252 → c ≠ 253 → M c = M0 c) ∧ (∀ i : Int, i ≠ 8 → i ≠ 9 → M 252 i = M0 252 i) ∧ (r < 0 → M 253 = M0 253) ∧
  (0 ≤ r → (∀ i : Int, i < 2 ∨ 106 ≤ i → M 253 (55 + 106 * r + i) = M0 253 (55 + 106 * r + i)) ∧ (∀ g : Int, 0 ≤ g → g < f → FC M (55 + 106 * r) g (F g)) ∧ (∀ g : Int, f < g → g < 4 → FC M (55 + 106 * r) g []) ∧ SH M (55 + 106 * r) f L V)
def STF (r : Int) (M0 M : jM) (f : Int) (F : rF) : Prop :=
  (∀ c : Int, c ≠ 252 → c ≠ 253 → M c = M0 c) ∧ (∀ i : Int, i ≠ 8 → i ≠ 9 → M 252 i = M0 252 i) ∧ (r < 0 → M 253 = M0 253) ∧
  (0 ≤ r → (∀ i : Int, i < 2 ∨ 106 ≤ i → M 253 (55 + 106 * r + i) = M0 253 (55 + 106 * r + i)) ∧ (∀ g : Int, 0 ≤ g → g < f → FC M (55 + 106 * r) g (F g)) ∧ (∀ g : Int, f ≤ g → g < 4 → FC M (55 + 106 * r) g []))
theorem FC.same {M M' : jM} {o g : Int} {L : List (List Int)} (h : FC M o g L) (e : M' 253 = M 253) : FC M' o g L := by
  unfold FC FV at *
  rw [e]
  exact h
theorem SH.same {M M' : jM} {o g : Int} {L : List (List Int)} {V : List Int} (h : SH M o g L V) (e : M' 253 = M 253) : SH M' o g L V := by
  unfold SH FV at *
  rw [e]
  exact h
theorem ST.ft {r : Int} {M0 M M' : jM} {f : Int} {F : rF} {L : List (List Int)} {V : List Int} (h : ST r M0 M f F L V) (e : tf M M') : ST r M0 M' f F L V := by
  obtain ⟨h1, h2, h3, h4⟩ := h
  have e3 := e.1 253 (by omega)
  exact ⟨fun c a b => by rw [e.1 c a]; exact h1 c a b, fun i a b => by rw [e.2 i a b]; exact h2 i a b, fun hr => by rw [e3]; exact h3 hr, fun hr => ⟨fun i hi => by rw [e3]; exact (h4 hr).1 i hi, fun g a b => ((h4 hr).2.1 g a b).same e3, fun g a b => ((h4 hr).2.2.1 g a b).same e3, (h4 hr).2.2.2.same e3⟩⟩
theorem STF.ft {r : Int} {M0 M M' : jM} {f : Int} {F : rF} (h : STF r M0 M f F) (e : tf M M') : STF r M0 M' f F := by
  obtain ⟨h1, h2, h3, h4⟩ := h
  have e3 := e.1 253 (by omega)
  exact ⟨fun c a b => by rw [e.1 c a]; exact h1 c a b, fun i a b => by rw [e.2 i a b]; exact h2 i a b, fun hr => by rw [e3]; exact h3 hr, fun hr => ⟨fun i hi => by rw [e3]; exact (h4 hr).1 i hi, fun g a b => ((h4 hr).2.1 g a b).same e3, fun g a b => ((h4 hr).2.2 g a b).same e3⟩⟩
theorem ST.toF {r : Int} {M0 M : jM} {f : Int} {F F' : rF} {L : List (List Int)} {V : List Int} (h : ST r M0 M f F L V) (e : ∀ g : Int, g ≠ f → F' g = F g) : ST r M0 M f F' L V := by
  obtain ⟨h1, h2, h3, h4⟩ := h
  exact ⟨h1, h2, h3, fun hr => ⟨(h4 hr).1, fun g a b => by rw [e g (by omega)]; exact (h4 hr).2.1 g a b, (h4 hr).2.2⟩⟩
theorem ST.neg {r : Int} {M0 M : jM} {f : Int} {F : rF} {L : List (List Int)} {V : List Int} (h : ST r M0 M f F L V) (hr : r < 0) (f' : Int) (F' : rF) (L' : List (List Int)) (V' : List Int) : ST r M0 M f' F' L' V' := ⟨h.1, h.2.1, h.2.2.1, fun z => by omega⟩
theorem ST.tfn {r : Int} {M0 M : jM} {f : Int} {F : rF} {L : List (List Int)} {V : List Int} (h : ST r M0 M f F L V) (hr : r < 0) : tf M0 M := ⟨fun c hc => by
  by_cases z : c = 253
  · rw [z]; exact h.2.2.1 hr
  · exact h.1 c hc z, h.2.1⟩
theorem STF.tfn {r : Int} {M0 M : jM} {f : Int} {F : rF} (h : STF r M0 M f F) (hr : r < 0) : tf M0 M := ⟨fun c hc => by
  by_cases z : c = 253
  · rw [z]; exact h.2.2.1 hr
  · exact h.1 c hc z, h.2.1⟩
theorem ST.tx {r : Int} {M0 M : jM} {f : Int} {F : rF} {L : List (List Int)} {V : List Int} {T : List Int} (h : ST r M0 M f F L V) (hT : TX M0 T) : TX M T := ⟨by rw [h.2.1 5 (by omega) (by omega)]; exact hT.1, hT.2.1, fun i x hi => by rw [h.1 256 (by omega) (by omega)]; exact hT.2.2 i x hi⟩
theorem STF.tx {r : Int} {M0 M : jM} {f : Int} {F : rF} {T : List Int} (h : STF r M0 M f F) (hT : TX M0 T) : TX M T := ⟨by rw [h.2.1 5 (by omega) (by omega)]; exact hT.1, hT.2.1, fun i x hi => by rw [h.1 256 (by omega) (by omega)]; exact hT.2.2 i x hi⟩
theorem STF.begin {r : Int} {M0 M : jM} {f : Int} {F : rF} (h : STF r M0 M f F) (hf : sFld f) : ST r M0 M f F [] [] := by
  obtain ⟨h1, h2, h3, h4⟩ := h
  refine ⟨h1, h2, h3, fun hr => ⟨(h4 hr).1, (h4 hr).2.1, fun g a b => (h4 hr).2.2 g (by omega) b, ?_⟩⟩
  have q := (h4 hr).2.2 f (by omega) hf.2
  exact ⟨q.1, FV_nil, fun i x hi => by simp at hi, q.2.2⟩
theorem jU_off {M : jM} {o i j v : Int} (h : i ≠ j) : jU M 253 (o + j) v 253 (o + i) = M 253 (o + i) := jU_in (by omega)
theorem jU_self {M : jM} {c i v : Int} : jU M c i v c i = v := by simp [jU]
theorem ST.put {r : Int} {M0 M : jM} {f : Int} {F : rF} {L L' : List (List Int)} {V V' : List Int} {w v : Int} (h : ST r M0 M f F L V) (hr : sRec r) (hf : sFld f) (hG : ∀ g : Int, 0 ≤ g → g < f → fOK (F g)) (hw : w = 2 + f ∨ (6 + 5 * f ≤ w ∧ w < 11 + 5 * f) ∨ (26 + 20 * f ≤ w ∧ w < 46 + 20 * f)) (hS : SH (jU M 253 (55 + 106 * r + w) v) (55 + 106 * r) f L' V') : ST r M0 (jU M 253 (55 + 106 * r + w) v) f F L' V' := by
  obtain ⟨h1, h2, h3, h4⟩ := h
  have h4 := h4 hr.1
  refine ⟨fun c a b => by rw [jU_row b]; exact h1 c a b, fun i a b => by rw [jU_row (by omega)]; exact h2 i a b, fun z => by omega, fun _ => ⟨fun i hi => by rw [jU_off (by omega)]; exact h4.1 i hi, fun g a b => ?_, fun g a b => ?_, hS⟩⟩
  · exact (h4.2.1 g a b).move (hG g a b) (fun i hi => jU_off (by omega))
  · exact (h4.2.2.1 g a b).move fOK_nil (fun i hi => jU_off (by omega))
theorem ST.num {r : Int} {M0 M : jM} {f x : Int} {F : rF} {L : List (List Int)} {V : List Int} (h : ST r M0 M f F L V) (hr : sRec r) (hf : sFld f) (hG : ∀ g : Int, 0 ≤ g → g < f → fOK (F g)) (hL : fOK L) (hL4 : L.length ≤ 4) (hV : V.length ≤ 3) : ST r M0 (jU M 253 (55 + 106 * r + (26 + 20 * f + 4 * L.length + V.length)) x) f F L (V ++ [x]) := by
  obtain ⟨s1, s2, s3, s4⟩ := (h.2.2.2 hr.1).2.2.2
  refine h.put hr hf hG (by omega) ⟨by rw [jU_off (by omega)]; exact s1, s2.move hL (fun i hi => jU_off (by omega)), fun i y hi => ?_, fun j a b => by rw [jU_off (by omega)]; exact s4 j a b⟩
  by_cases q : i < V.length
  · rw [List.getElem?_append_left q] at hi
    rw [jU_off (by omega)]
    exact s3 i y hi
  · have hz : i = V.length := by
      have := (List.getElem?_eq_some_iff.mp hi).1
      simp at this
      omega
    subst hz
    have : y = x := by simpa using hi.symm
    subst this
    exact jU_self
theorem ST.val {r : Int} {M0 M : jM} {f : Int} {F : rF} {L : List (List Int)} {V : List Int} (h : ST r M0 M f F L V) (hr : sRec r) (hf : sFld f) (hG : ∀ g : Int, 0 ≤ g → g < f → fOK (F g)) (hL : fOK L) (hL4 : L.length ≤ 4) (hV : vOK V) : ST r M0 (jU M 253 (55 + 106 * r + (6 + 5 * f + L.length)) V.length) f F (L ++ [V]) [] := by
  obtain ⟨s1, s2, s3, s4⟩ := (h.2.2.2 hr.1).2.2.2
  have s2' : FV (jU M 253 (55 + 106 * r + (6 + 5 * f + L.length)) V.length) (55 + 106 * r) f L := s2.move hL (fun i hi => jU_off (by omega))
  refine h.put hr hf hG (by omega) ⟨by rw [jU_off (by omega)]; exact s1, fun j W hj => ?_, fun i y hi => by simp at hi, fun j a b => ?_⟩
  · by_cases q : j < L.length
    · rw [List.getElem?_append_left q] at hj
      exact s2' j W hj
    · have hz : j = L.length := by
        have := (List.getElem?_eq_some_iff.mp hj).1
        simp at this
        omega
      subst hz
      have : W = V := by simpa using hj.symm
      subst this
      refine ⟨jU_self, fun i x hi => ?_⟩
      rw [jU_off (by omega)]
      exact s3 i x hi
  · simp only [List.length_append, List.length_cons, List.length_nil] at a
    rw [jU_off (by omega)]
    exact s4 j (by omega) b
theorem ST.fld {r : Int} {M0 M : jM} {f : Int} {F : rF} {L : List (List Int)} (h : ST r M0 M f F L []) (hr : sRec r) (hf : sFld f) (hG : ∀ g : Int, 0 ≤ g → g < f → fOK (F g)) (hL : fOK L) (hF : F f = L) : STF r M0 (jU M 253 (55 + 106 * r + (2 + f)) L.length) (f + 1) F := by
  obtain ⟨h1, h2, h3, h4⟩ := h
  have h4 := h4 hr.1
  obtain ⟨s1, s2, s3, s4⟩ := h4.2.2.2
  refine ⟨fun c a b => by rw [jU_row b]; exact h1 c a b, fun i a b => by rw [jU_row (by omega)]; exact h2 i a b, fun z => by omega, fun _ => ⟨fun i hi => by rw [jU_off (by omega)]; exact h4.1 i hi, fun g a b => ?_, fun g a b => ?_⟩⟩
  · by_cases z : g = f
    · subst z
      rw [hF]
      have := hL.1
      exact ⟨jU_self, s2.move hL (fun i hi => jU_off (by omega)), fun j a b => by rw [jU_off (by omega)]; exact s4 j a b⟩
    · exact (h4.2.1 g a (by omega)).move (hG g a (by omega)) (fun i hi => jU_off (by omega))
  · exact (h4.2.2.1 g (by omega) b).move fOK_nil (fun i hi => jU_off (by omega))
theorem ST.fldn {r : Int} {M0 M : jM} {f : Int} {F : rF} {L : List (List Int)} {V : List Int} (h : ST r M0 M f F L V) (hr : r < 0) (f' : Int) (F' : rF) : STF r M0 M f' F' := ⟨h.1, h.2.1, h.2.2.1, fun z => by omega⟩
/-! a value -/
theorem tv_lp {N : Nat} {M0 : jM} {T : List Int} {R : Int × rF} {r f : Int} {F0 : rF} {L : List (List Int)} {kx : Int → jM → Prop} (hN : 5000 ≤ N) (hT : TX M0 T) (hr : r < 0 ∨ (sRec r ∧ R.1 = -1000007)) (hf : sFld f) (hL : fOK L) (hL4 : L.length ≤ 4) (hG : ∀ g : Int, 0 ≤ g → g < f → fOK (F0 g))
    (H : ∀ (M' : jM) (V : List Int) (q : Nat) (F : rF) (num ng : Int), ST r M0 M' f F L V → (∀ g, g ≠ f → F g = F0 g) → PS M' q 1 → q ≤ T.length → vOK V → F f = L ++ [V] → rdRun 3 f num ng F (T.drop q) q = R → (∀ c, T[q]? = some c → c ≠ 93 → c ≠ 94 → rdStep 3 f num ng F c = none) → kx V.length M')
    (H0 : ∀ (z : Int) (M' : jM) (q : Nat), r < 0 → q ≤ T.length → tf M0 M' → PS M' q 0 → R.1 = q → kx z M') :
    ∀ (d n p : Nat) (V : List Int) (M : jM) (F : rF), V.length + d = 3 → d + 1 < n → ST r M0 M f F L V → (∀ g, g ≠ f → F g = F0 g) → PS M p 1 → (∀ x ∈ V, -999 ≤ x ∧ x ≤ 999) → BN T R F f L V p → lp_X7_takesValue_6 N 252 r f L.length kx n V.length 1 M := by
  have h90 := hT.2.1
  intro d
  induction d using Nat.strongRecOn with
  | ind d ih =>
  intro n p V M F hd hn hST hF hps hV hB
  obtain ⟨n, rfl⟩ : ∃ m, n = m + 1 + 1 := ⟨n - 2, by omega⟩
  rw [lp_X7_takesValue_6, if_neg (by decide)]
  refine tn_k hN (hST.tx hT) hps hB (fun x M1 q f1 hp1 hA => ?_) (fun x M1 q hql f1 hp1 e => ?_)
  · obtain ⟨hql, hxs, hnd, ng, F1, hF1, hF1f, hR⟩ := hA
    have hST1 : ST r M0 M1 f F1 L V := (hST.ft f1).toF hF1
    have hF1' : ∀ g, g ≠ f → F1 g = F0 g := fun g hg => by rw [hF1 g hg]; exact hF g hg
    have hG1 : ∀ g : Int, 0 ≤ g → g < f → fOK (F1 g) := fun g a b => by rw [hF1' g (by omega)]; exact hG g a b
    have hlen : ((V ++ [x]).length : Int) = (V.length : Int) + 1 := by simp
    have hvok : vOK (V ++ [x]) := ⟨by simp, by simp; omega, fun y hy => by
      rcases List.mem_append.mp hy with hy | hy
      · exact hV y hy
      · have : y = x := by simpa using hy
        rw [this]; exact hxs⟩
    simp only [jL]
    have exit : ∀ M3, ST r M0 M3 f F1 L (V ++ [x]) → PS M3 q 1 → (T[q]? = some 47 → ¬ V.length + 1 < 4) → lp_X7_takesValue_6 N 252 r f L.length kx (n + 1) ((V ++ [x]).length : Nat) 0 M3 := fun M3 a b c => by
      rw [lp_X7_takesValue_6, if_pos rfl]
      refine H M3 (V ++ [x]) q F1 x ng a hF1' b hql hvok hF1f hR (fun y hy y3 y4 => ?_)
      unfold rdStep
      by_cases z1 : 48 ≤ y ∧ y ≤ 57
      · rw [if_pos z1, if_neg (by decide), if_pos rfl, if_pos (hnd y hy z1.1 z1.2)]
      · rw [if_neg z1]
        by_cases z2 : y = 45
        · rw [if_pos z2, if_neg (by decide)]
        · rw [if_neg z2]
          by_cases z3 : y = 47
          · rw [if_pos z3, if_neg]
            rw [hF1f, pl_ls]
            have := c (by rw [hy, z3])
            omega
          · rw [if_neg z3, if_neg y3, if_neg y4]
    have body : ∀ M2, ST r M0 M2 f F1 L (V ++ [x]) → PS M2 q 1 → (if M2 252 9 = 0 then (if (0 : Int) = 0 then lp_X7_takesValue_6 N 252 r f L.length kx (n + 1) (jW ((V.length : Int) + 1)) 0 (jU M2 252 8 (jW (M2 252 8 + 0))) else lp_X7_takesValue_6 N 252 r f L.length kx (n + 1) (jW ((V.length : Int) + 1)) 0 (jU M2 252 8 (jW (M2 252 8 + 1)))) else (if jW ((V.length : Int) + 1) < 4 then w_X7_here M2 252 (fun x15 => (if x15 = 47 then (if (1 : Int) = 0 then lp_X7_takesValue_6 N 252 r f L.length kx (n + 1) (jW ((V.length : Int) + 1)) 1 (jU M2 252 8 (jW (M2 252 8 + 0))) else lp_X7_takesValue_6 N 252 r f L.length kx (n + 1) (jW ((V.length : Int) + 1)) 1 (jU M2 252 8 (jW (M2 252 8 + 1)))) else (if (0 : Int) = 0 then lp_X7_takesValue_6 N 252 r f L.length kx (n + 1) (jW ((V.length : Int) + 1)) 0 (jU M2 252 8 (jW (M2 252 8 + 0))) else lp_X7_takesValue_6 N 252 r f L.length kx (n + 1) (jW ((V.length : Int) + 1)) 0 (jU M2 252 8 (jW (M2 252 8 + 1)))))) else (if (0 : Int) = 0 then lp_X7_takesValue_6 N 252 r f L.length kx (n + 1) (jW ((V.length : Int) + 1)) 0 (jU M2 252 8 (jW (M2 252 8 + 0))) else lp_X7_takesValue_6 N 252 r f L.length kx (n + 1) (jW ((V.length : Int) + 1)) 0 (jU M2 252 8 (jW (M2 252 8 + 1)))))) := fun M2 a b => by
      have u0 : ST r M0 (jU M2 252 8 (q : Int)) f F1 L (V ++ [x]) := a.ft tf.u8
      have p0 : PS (jU M2 252 8 (q : Int)) q 1 := ⟨by simp [jU], by rw [jU_in (by omega)]; exact b.2⟩
      rw [if_neg (by rw [b.2]; decide), b.1, jW_id (a := (V.length : Int) + 1) (by omega), jW_id (a := (q : Int) + 0) (by omega), jW_id (a := (q : Int) + 1) (by omega), Int.add_zero, ← hlen]
      by_cases z : ((V ++ [x]).length : Int) < 4
      · rw [if_pos z, here_eq (a.tx hT) b]
        by_cases z47 : T.getD q 0 = 47
        · rw [if_pos z47, if_neg (by decide)]
          obtain ⟨hc, hlt⟩ := getD_some (T := T) (p := q) (by omega)
          rw [z47] at hc
          have hs : rdStep 3 f x ng F1 47 = some (1, f, x, ng, uI F1 f (fInsS (F1 f) (lv (F1 f)) (ls (F1 f) + 1) 0)) := by
            unfold rdStep
            rw [if_neg (by decide), if_neg (by decide), if_pos rfl, if_pos ⟨rfl, by rw [hF1f, pl_ls]; omega⟩]
          have hR2 := hR
          rw [drop_at hc, rdRun_some hs, hF1f, pl_insS] at hR2
          refine ih (d - 1) (by omega) (n + 1) (q + 1) (V ++ [x]) _ (uI F1 f (L ++ [V ++ [x] ++ [0]])) (by omega) (by omega) ((a.ft tf.u8).toF (fun g hg => uI_ne hg)) (fun g hg => by rw [uI_ne hg]; exact hF1' g hg) ⟨by simp [jU], by rw [jU_in (by omega)]; exact b.2⟩ hvok.2.2 ⟨by omega, 1, x, ng, hR2, Or.inr ⟨rfl, uI_self _ _ _⟩⟩
        · rw [if_neg z47, if_pos rfl]
          refine exit _ u0 p0 (fun hc => absurd ?_ z47)
          rw [List.getD_eq_getElem?_getD, hc]
          rfl
      · rw [if_neg z, if_pos rfl]
        exact exit _ u0 p0 (fun _ => by omega)
    by_cases hrn : r < 0
    · rw [if_pos hrn]
      exact body M1 (hST1.neg hrn _ _ _ _) hp1
    · have hrr : sRec r := hr.elim (fun z => absurd z hrn) (fun z => z.1)
      rw [if_neg hrn, numCell_eq hf (by omega) (by omega), lays_eq hrr (by omega)]
      exact body _ (hST1.num hrr hf hG1 hL hL4 (by omega)) ⟨by rw [jU_row (by omega)]; exact hp1.1, by rw [jU_row (by omega)]; exact hp1.2⟩
  · have hrn : r < 0 := hr.elim (fun z => z) (fun z => by have := z.2; omega)
    simp only [jL]
    rw [if_pos hrn, if_pos hp1.2, hp1.1, jW_id (a := (V.length : Int) + 1) (by omega), jW_id (a := (q : Int) + 0) (by omega), jW_id (a := (q : Int) + 1) (by omega), Int.add_zero, if_pos trivial, lp_X7_takesValue_6, if_pos rfl]
    exact H0 _ _ q hrn hql ((hST.tfn hrn).tr (f1.tr tf.u8)) ⟨by simp [jU], by rw [jU_in (by omega)]; exact hp1.2⟩ e
