/-! would: totals, means, the exploded list in its order -/
theorem countP_two {α : Type} {P Q R : α → Bool} {l : List α} (h : ∀ x ∈ l, (P x = true → R x = true ∧ Q x = false) ∧ (Q x = true → R x = true)) : l.countP P + l.countP Q ≤ l.countP R := by
  induction l with
  | nil => simp
  | cons x l ih =>
    have h1 := h x (by simp)
    have h2 := ih (fun y hy => h y (by simp [hy]))
    simp only [List.countP_cons]
    cases hp : P x <;> cases hq : Q x <;> cases hr : R x <;> simp_all <;> omega
def oneN (X : List Int) : Nat := X.countP (fun y => decide (X.count y = 1))
theorem oneN_cons (x : Int) (X : List Int) : oneN (x :: X) ≤ oneN X + 1 := by
  unfold oneN
  rw [List.countP_cons]
  have h : X.countP (fun y => decide ((x :: X).count y = 1)) ≤ X.countP (fun y => decide (X.count y = 1)) := List.countP_mono_left (fun y hy hc => by
    have h1 : 0 < X.count y := List.count_pos_iff.mpr hy
    have h2 : (x :: X).count y = 1 := by simpa using hc
    rw [List.count_cons] at h2
    simp
    omega)
  split <;> omega
theorem oneN_again {x : Int} {X : List Int} (hx : X.count x = 1) : oneN (x :: X) + 1 ≤ oneN X := by
  unfold oneN
  rw [List.countP_cons]
  have e : (x :: X).count x = 2 := by rw [List.count_cons_self, hx]
  rw [if_neg (by rw [e]; decide)]
  have h := countP_two (P := fun y => decide ((x :: X).count y = 1)) (Q := fun y => y == x) (R := fun y => decide (X.count y = 1)) (l := X) (fun y hy => by
    have h1 : 0 < X.count y := List.count_pos_iff.mpr hy
    constructor
    · intro hc
      have h2 : (x :: X).count y = 1 := by simpa using hc
      have h3 : y ≠ x := fun z => by rw [z, e] at h2; omega
      rw [List.count_cons] at h2
      exact ⟨by simp; omega, by simpa using h3⟩
    · intro hc
      have h3 : y = x := by simpa using hc
      rw [h3]
      simpa using hx)
  have h2 : X.countP (fun y => y == x) = 1 := hx
  omega
theorem repN_one (X : List Int) : 2 * repN X + oneN X ≤ X.length := by
  induction X with
  | nil => decide
  | cons x X ih =>
    show 2 * ((if X.count x = 1 then 1 else 0) + repN X) + oneN (x :: X) ≤ X.length + 1
    by_cases c : X.count x = 1
    · have := oneN_again c
      rw [if_pos c]
      omega
    · have := oneN_cons x X
      rw [if_neg c]
      omega
theorem sum_flat (s : aS) (c : Int) (I : List Int) : (I.map (fun id => (colS s id c).sum)).sum = (I.flatMap (fun id => colS s id c)).sum := by
  induction I with
  | nil => rfl
  | cons x I ih => simp [ih]
theorem sumL_all (s : aS) (c : Int) : sumL s c (-1) = (allX s c).sum := by
  unfold sumL allX
  rw [← sum_flat]
  congr 2
theorem flat_le20 {s : aS} {c : Int} {I : List Int} (h : ∀ id ∈ I, (colS s id c).length ≤ 20) : (I.flatMap (fun id => colS s id c)).length ≤ 20 * I.length := by
  induction I with
  | nil => simp
  | cons x I ih =>
    have h1 := h x (by simp)
    have h2 := ih (fun y hy => h y (by simp [hy]))
    rw [List.flatMap_cons, List.length_append, List.length_cons]
    omega
theorem cok_of {s : aS} (h : aOK s) {id c : Int} (hid : id ∈ sI s) (hc : sCol c) : (colS s id c).length ≤ 20 ∧ ∀ x ∈ colS s id c, cBig x := by
  obtain ⟨-, -, hf, hg⟩ := sC_ok h hc
  exact col_ok ((h.2 id hid).2.2 _ hf) ((h.2 id hid).2.2 _ hg)
/-! the sorted list of entries -/
theorem ahead_trans {d : Int} {x y z : eE} (h : aheadP d x y) (h2 : aheadP d y z) : aheadP d x z := by
  unfold aheadP at *
  split at h <;> split at h2 <;> split <;> omega
theorem ahead_total {d : Int} {x y : eE} (h : ¬ (x.2.1 = y.2.1 ∧ x.2.2 = y.2.2)) : aheadP d x y ∨ aheadP d y x := by
  unfold aheadP
  by_cases c : d = 0
  · rw [if_pos c, if_pos c]; omega
  · rw [if_neg c, if_neg c]; omega
abbrev keyLt (x y : eE) : Prop := x.2.1 < y.2.1 ∨ (x.2.1 = y.2.1 ∧ x.2.2 < y.2.2)
theorem sort_ins {d : Int} (e : eE) : ∀ E : List eE, E.Pairwise (aheadP d) → (∀ y ∈ E, ¬ (e.2.1 = y.2.1 ∧ e.2.2 = y.2.2)) → ∃ E2 : List eE, E2.Pairwise (aheadP d) ∧ E2.Perm (e :: E) := by
  intro E
  induction E with
  | nil => intro _ _; exact ⟨[e], by simp, List.Perm.refl _⟩
  | cons x E ih =>
    intro hs hne
    obtain ⟨h1, h2⟩ := List.pairwise_cons.mp hs
    rcases ahead_total (d := d) (hne x (by simp)) with c | c
    · refine ⟨e :: x :: E, List.pairwise_cons.mpr ⟨fun y hy => ?_, hs⟩, List.Perm.refl _⟩
      rcases List.mem_cons.mp hy with rfl | hy
      · exact c
      · exact ahead_trans c (h1 y hy)
    · obtain ⟨E2, hs2, hp2⟩ := ih h2 (fun y hy => hne y (by simp [hy]))
      refine ⟨x :: E2, List.pairwise_cons.mpr ⟨fun y hy => ?_, hs2⟩, ?_⟩
      · rcases List.mem_cons.mp (hp2.mem_iff.mp hy) with rfl | hy
        · exact c
        · exact h1 y hy
      · exact (hp2.cons x).trans (List.Perm.swap e x E)
theorem sort_all {d : Int} : ∀ A : List eE, A.Pairwise keyLt → ∃ E : List eE, E.Pairwise (aheadP d) ∧ E.Perm A := by
  intro A
  induction A with
  | nil => intro _; exact ⟨[], by simp, List.Perm.refl _⟩
  | cons e A ih =>
    intro h
    obtain ⟨h1, h2⟩ := List.pairwise_cons.mp h
    obtain ⟨E, hs, hp⟩ := ih h2
    obtain ⟨E2, hs2, hp2⟩ := sort_ins (d := d) e E hs (fun y hy z => by have := h1 y (hp.mem_iff.mp hy); omega)
    exact ⟨E2, hs2, hp2.trans (hp.cons e)⟩
theorem entF_at {id : Int} : ∀ (B : List Int) (k : Int) (e : eE), e ∈ entF id k B → e.2.1 = id ∧ k ≤ e.2.2 ∧ e.2.2 < k + B.length ∧ e.1 = B.getD (e.2.2 - k).toNat 0 := by
  intro B
  induction B with
  | nil => intro k e h; simp [entF] at h
  | cons x B ih =>
    intro k e h
    rcases List.mem_cons.mp h with h | h
    · subst h
      refine ⟨rfl, by dsimp only; omega, by dsimp only; simp only [List.length_cons]; omega, ?_⟩
      dsimp only
      rw [Int.sub_self]
      rfl
    · obtain ⟨h1, h2, h3, h4⟩ := ih (k + 1) e h
      refine ⟨h1, by omega, by simp only [List.length_cons]; omega, ?_⟩
      rw [h4, show (e.2.2 - k).toNat = (e.2.2 - (k + 1)).toNat + 1 by omega, List.getD_cons_succ]
theorem entF_up {id : Int} : ∀ (B : List Int) (k : Int), (entF id k B).Pairwise keyLt := by
  intro B
  induction B with
  | nil => intro k; simp [entF]
  | cons x B ih =>
    intro k
    refine List.pairwise_cons.mpr ⟨fun y hy => ?_, ih (k + 1)⟩
    obtain ⟨h1, h2, -, -⟩ := entF_at B (k + 1) y hy
    refine Or.inr ⟨h1.symm, ?_⟩
    show k < y.2.2
    omega
theorem allE_up {s : aS} (h : aOK s) (c : Int) : (allE s c).Pairwise keyLt := by
  unfold allE
  have hI : (sI s).Pairwise (· < ·) := h.1.2.1
  generalize sI s = I at hI
  induction I with
  | nil => simp
  | cons x I ih =>
    obtain ⟨h1, h2⟩ := List.pairwise_cons.mp hI
    rw [List.flatMap_cons, List.pairwise_append]
    refine ⟨entF_up _ _, ih h2, fun e he y hy => ?_⟩
    obtain ⟨z, hz, hy⟩ := List.mem_flatMap.mp hy
    have e1 := (entF_at _ _ e he).1
    have e2 := (entF_at _ _ y hy).1
    have := h1 z hz
    exact Or.inl (by omega)
theorem allE_mem {s : aS} {c : Int} {e : eE} (h : e ∈ allE s c) : e.2.1 ∈ sI s ∧ 0 ≤ e.2.2 ∧ e.2.2 < ((colS s e.2.1 c).length : Nat) ∧ e.1 = (colS s e.2.1 c).getD e.2.2.toNat 0 := by
  obtain ⟨id, hid, he⟩ := List.mem_flatMap.mp h
  obtain ⟨h1, h2, h3, h4⟩ := entF_at _ _ e he
  rw [h1]
  rw [Int.sub_zero] at h4
  exact ⟨hid, h2, by omega, h4⟩
theorem allE_len (s : aS) (c : Int) : (allE s c).length = (allX s c).length := by
  rw [← allE_fst, List.length_map]
theorem explodedAt_in {a : aA} {c d i p : Int} (hc : sCol c) (h : 0 ≤ i ∧ 0 ≤ p ∧ p ≤ 2) : a_explodedAt a c d i p = exAt (allE (aNow a) c) d i p := by
  rw [a_explodedAt, if_neg (not_not_intro hc), if_neg (by omega)]
theorem v_mean {N : Nat} {M : jM} {a : aA} {c : Int} {k : UInt32 → jM → Prop} (hN : 300 ≤ N) (hX : XR M a) (hc : sCol c) (H : ∀ M' : jM, XR M' a → ((allX (aNow a) c).length = 0 → k FP.fconst0 M') ∧ (¬ (allX (aNow a) c).length = 0 → k (FP.fdiv (FP.i2f (jI (sumL (aNow a) c (-1)))) (FP.i2f (jI ((allX (aNow a) c).length : Int)))) M')) (hl : ((allX (aNow a) c).length : Int) ≤ 200) : w_X6_mean N M 0 c k := by
  refine xs_mean (by omega) hX (fun M' _ hX' => ?_)
  obtain ⟨h0, h1⟩ := H M' hX'
  unfold meanP
  rw [if_neg (not_not_intro hc)]
  by_cases c0 : (allX (aNow a) c).length = 0
  · rw [if_pos c0]; exact h0 c0
  · rw [if_neg c0]
    exact ⟨f_n32 (f_num _ _ (by omega) (by omega)), h1 c0⟩
section WO
variable {N : Nat} {a : aA} {c : Int}
theorem wo190 (hN : 300 ≤ N) {id : Int} (hid : id ∈ sI (aNow a)) (hc : sCol c) {kx : Int → jM → Prop} (hB : (colS (aNow a) id c).length ≤ 20) (hb : ∀ x ∈ colS (aNow a) id c, cBig x) : ∀ (d n q : Nat) (sm : Int) (M : jM), d < n → q + d = (colS (aNow a) id c).length → (-(998001 * (300 - d)) ≤ sm ∧ sm ≤ 998001 * (300 - d)) → XR M a → (∀ M' : jM, XR M' a → kx (sm + ((colS (aNow a) id c).drop q).sum) M') → lp_L_would_190 N 0 c id kx n sm q M := by
  intro d
  induction d with
  | zero =>
    intro n q sm M hn hq hs hX K
    obtain ⟨n, rfl⟩ : ∃ m, n = m + 1 := ⟨n - 1, by omega⟩
    rw [lp_L_would_190]
    refine v_numbers hN hX (fun w M1 hw hX1 => ?_)
    rw [numbers_in hid hc] at hw
    rw [if_neg (by omega)]
    have := K M1 hX1
    rw [List.drop_eq_nil_of_le (by omega)] at this
    simpa using this
  | succ d ih =>
    intro n q sm M hn hq hs hX K
    obtain ⟨n, rfl⟩ : ∃ m, n = m + 1 := ⟨n - 1, by omega⟩
    rw [lp_L_would_190]
    refine v_numbers hN hX (fun w M1 hw hX1 => ?_)
    rw [numbers_in hid hc] at hw
    rw [if_pos (by omega)]
    refine v_numberAt hN hX1 (fun x M2 hx hX2 => ?_)
    rw [numberAt_in hid hc (by omega) (by omega), Int.toNat_natCast] at hx
    have eq : (colS (aNow a) id c)[q]? = some x := by
      rw [hx, List.getD_eq_getElem?_getD, List.getElem?_eq_getElem (by omega)]
      rfl
    have hxb := hb x (List.mem_of_getElem? eq)
    have hd20 : (d : Int) ≤ 20 := by omega
    refine jL_w (by omega) (fun sm' hsm' => ?_)
    refine jL_w (by omega) (fun q2 hq2 => ?_)
    subst hq2
    refine ih n (q + 1) sm' M2 (by omega) (by omega) (by omega) hX2 (fun M3 hX3 => ?_)
    have := K M3 hX3
    have e1 : (colS (aNow a) id c).drop q = x :: (colS (aNow a) id c).drop (q + 1) := by
      obtain ⟨i1, e1⟩ := List.getElem?_eq_some_iff.mp eq
      rw [List.drop_eq_getElem_cons i1, e1]
    rw [e1, List.sum_cons] at this
    have e2 : sm + (x + ((colS (aNow a) id c).drop (q + 1)).sum) = sm' + ((colS (aNow a) id c).drop (q + 1)).sum := by omega
    rw [e2] at this
    exact this
theorem wo154 (hN : 300 ≤ N) (hc : sCol c) {kx : Int → Int → jM → Prop} (K : ∀ M' : jM, XR M' a → kx (allX (aNow a) c).sum ((allX (aNow a) c).length : Int) M') : ∀ (d n p : Nat) (M : jM), d < n → p + d = (sI (aNow a)).length → XR M a → lp_L_would_154 N 0 c 0 kx n (((sI (aNow a)).take p).flatMap (fun id => colS (aNow a) id c)).sum ((((sI (aNow a)).take p).flatMap (fun id => colS (aNow a) id c)).length : Int) p M := by
  intro d
  induction d with
  | zero =>
    intro n p M hn hp hX
    obtain ⟨n, rfl⟩ : ∃ m, n = m + 1 := ⟨n - 1, by omega⟩
    rw [lp_L_would_154]
    refine v_records hN hX (fun w hw => ?_)
    rw [if_neg (by omega), List.take_of_length_le (by omega)]
    exact K M hX
  | succ d ih =>
    intro n p M hn hp hX
    obtain ⟨n, rfl⟩ : ∃ m, n = m + 1 := ⟨n - 1, by omega⟩
    have hs := hX.aok
    have h10 := hs.1.1
    obtain ⟨id, hi⟩ : ∃ id, (sI (aNow a))[p]? = some id := ⟨_, List.getElem?_eq_getElem (by omega)⟩
    have hid : id ∈ sI (aNow a) := List.mem_of_getElem? hi
    obtain ⟨hB, hb⟩ := cok_of hs hid hc
    have hF := flat_take (g := fun id => colS (aNow a) id c) hi
    have hlen := flat_le20 (s := aNow a) (c := c) (I := (sI (aNow a)).take p) (fun y hy => (cok_of hs (List.mem_of_mem_take hy) hc).1)
    have hsum := sum_bd (B := ((sI (aNow a)).take p).flatMap (fun id => colS (aNow a) id c)) (fun x hx => by
      obtain ⟨y, hy, hx⟩ := List.mem_flatMap.mp hx
      exact (cok_of hs (List.mem_of_mem_take hy) hc).2 x hx)
    rw [List.length_take] at hlen
    generalize hF0 : ((sI (aNow a)).take p).flatMap (fun id => colS (aNow a) id c) = F0 at hF hlen hsum
    rw [lp_L_would_154]
    refine v_records hN hX (fun w hw => ?_)
    rw [if_pos (by omega), if_pos rfl]
    refine v_recordAt hN hX (fun z hz => ?_)
    rw [recordAt_in hi] at hz
    subst hz
    refine v_numbers hN hX (fun w M1 hw hX1 => ?_)
    rw [numbers_in hid hc] at hw
    refine jL_w (by omega) (fun m hm => ?_)
    refine wo190 hN hid hc hB hb (colS (aNow a) z c).length N 0 _ M1 (by omega) (by omega) (by omega) hX1 (fun M2 hX2 => ?_)
    refine jL_w (by omega) (fun q hq => ?_)
    subst hq
    have := ih n (p + 1) M2 (by omega) (by omega) hX2
    rw [hF] at this
    rw [List.sum_append, List.length_append] at this
    have e : m = ((F0.length + (colS (aNow a) z c).length : Nat) : Int) := by omega
    rw [e, List.drop_zero]
    exact this
end WO
set_option maxHeartbeats 2000000 in
theorem would_k {N : Nat} {M : jM} {a : aA} {y : Int} {k : Int → jM → Prop} (hN : 300 ≤ N) (hX : XR M a) (K : ∀ M' : jM, XR M' a → k 1 M') : w_L_would N M 0 y k := by
  have hs := hX.aok
  have h10 := hs.1.1
  unfold w_L_would
  refine low_k (by omega) (by omega) (fun x1 _ _ => ?_)
  refine jL_w (by omega) (fun c hcw => ?_)
  refine jL_s (fun x3 => (x3 = 0 ∧ sCol c) ∨ (x3 = 1 ∧ ¬ sCol c)) (fun j hj => ?_) (fun x3 h3 => ?_)
  · by_cases q : c < 0
    · rw [if_pos q]; exact hj _ (Or.inr ⟨rfl, by omega⟩)
    · rw [if_neg q]
      by_cases q2 : c ≤ 5
      · rw [if_pos q2]; exact hj _ (Or.inl ⟨rfl, by omega⟩)
      · rw [if_neg q2]; exact hj _ (Or.inr ⟨rfl, by omega⟩)
  refine v_exploded hN hX (fun x5 M1 h5 hX => ?_)
  refine v_total hN hX (fun x7 M2 h7 hX => ?_)
  refine low_k (by omega) (by omega) (fun x9 _ _ => ?_)
  refine jL_w (by omega) (fun ix hix => ?_)
  refine low_k (by omega) (by omega) (fun x11 _ _ => ?_)
  refine jL_w (by omega) (fun pt hpt => ?_)
  refine low_k (by omega) (by omega) (fun x13 _ _ => ?_)
  refine jL_s (fun x14 => x14 = 0 ∨ x14 = 1) (fun j hj => ?_) (fun d hd => ?_)
  · by_cases q : x13 = 0
    · rw [if_pos q]; exact hj _ (Or.inr rfl)
    · rw [if_neg q]; exact hj _ (Or.inl rfl)
  refine v_explodedAt hN hX (fun x16 M3 h16 hX => ?_)
  refine low_k (by omega) (by omega) (fun x18 _ _ => ?_)
  refine jL_w (by omega) (fun ll hll => ?_)
  refine v_total hN hX (fun x20 M4 h20 hX => ?_)
  refine v_repeated hN hX (fun x22 M5 h22 hX => ?_)
  refine jL_s (fun x24 => (x24 = 0 ∧ 0 ≤ ix ∧ 0 ≤ pt ∧ pt ≤ 2) ∨ (x24 = 1 ∧ (ix < 0 ∨ ¬ (0 ≤ pt ∧ pt ≤ 2)))) (fun j hj => ?_) (fun x24 h24 => ?_)
  · by_cases q : ix < 0
    · rw [if_pos q]; exact hj _ (Or.inr ⟨rfl, Or.inl q⟩)
    rw [if_neg q]
    by_cases q2 : pt < 0
    · rw [if_pos q2]; exact hj _ (Or.inr ⟨rfl, Or.inr (by omega)⟩)
    rw [if_neg q2]
    by_cases q3 : pt ≤ 2
    · rw [if_pos q3]; exact hj _ (Or.inl ⟨rfl, by omega, by omega, q3⟩)
    · rw [if_neg q3]; exact hj _ (Or.inr ⟨rfl, Or.inr (by omega)⟩)
  rcases h3 with ⟨e3, hc⟩ | ⟨e3, hc⟩
  · subst e3
    rw [a_exploded, if_neg (not_not_intro hc)] at h5
    rw [a_total, if_neg (by omega), sumL_all] at h7
    rw [a_repeated, if_neg (not_not_intro hc)] at h22
    have hlen := flat_le20 (s := aNow a) (c := c) (I := sI (aNow a)) (fun z hz => (cok_of hs hz hc).1)
    have hlen : (allX (aNow a) c).length ≤ 20 * (sI (aNow a)).length := hlen
    have hsum := sum_bd (B := allX (aNow a) c) (fun x hx => by
      obtain ⟨z, hz, hx⟩ := List.mem_flatMap.mp hx
      exact (cok_of hs hz hc).2 x hx)
    have hrep := repN_one (allX (aNow a) c)
    have hEl := allE_len (aNow a) c
    obtain ⟨E, hE1, hE2⟩ := sort_all (d := d) (allE (aNow a) c) (allE_up hs c)
    have hEn : E.length = (allX (aNow a) c).length := by rw [hE2.length_eq, hEl]
    have hat : ∀ (i : Nat) (e : eE), E[i]? = some e → ∀ p : Int, 0 ≤ p → p ≤ 2 → a_explodedAt a c d i p = if p = 0 then e.1 else if p = 1 then e.2.1 else e.2.2 := fun i e hi p p0 p1 => by
      rw [explodedAt_in hc ⟨by omega, p0, p1⟩]
      exact exAt_at hE1 hE2 hi
    have hin : ∀ (i : Nat) (e : eE), E[i]? = some e → (e.2.1 ∈ sI (aNow a) ∧ 0 ≤ e.2.1 ∧ e.2.1 < 100) ∧ (0 ≤ e.2.2 ∧ e.2.2 < 20) ∧ cBig e.1 ∧ a_numberAt a e.2.1 c e.2.2 = e.1 := fun i e hi => by
      obtain ⟨g1, g2, g3, g4⟩ := allE_mem (hE2.mem_iff.mp (List.mem_of_getElem? hi))
      obtain ⟨g5, g6⟩ := cok_of hs g1 hc
      have g7 := (hs.2 _ g1).1
      refine ⟨⟨g1, g7.1, g7.2⟩, ⟨g2, by omega⟩, g6 _ ?_, ?_⟩
      · rw [g4, List.getD_eq_getElem?_getD, List.getElem?_eq_getElem (by omega : e.2.2.toNat < (colS (aNow a) e.2.1 c).length)]
        exact List.getElem_mem _
      · rw [numberAt_in g1 hc g2 g3, ← g4]
    refine wo154 hN hc (fun M6 hX => ?_) (sI (aNow a)).length N 0 M5 (by omega) (by omega) hX
    rw [if_pos rfl]
    refine jL_s2 (fun x33 M35 => x33 = 1 ∧ XR M35 a) (fun j hj => ?_) (fun x33 M7 h33 => ?_)
    · rw [if_pos (by omega), if_pos (by omega)]
      refine jL_s0 True (fun j2 hj2 => ?_) (fun _ => ?_)
      · by_cases q : ll = 8
        · rw [a_total, if_pos (by omega)] at h20
          rw [if_pos q, if_pos h20]; exact hj2 trivial
        · rw [if_neg q]
          by_cases q2 : ll < 0
          · have e : ll = -1 := by omega
            rw [e, a_total, if_neg (by omega), sumL_all] at h20
            rw [if_pos q2, if_pos (by omega)]; exact hj2 trivial
          · rw [if_neg q2]; exact hj2 trivial
      · rw [if_neg (by omega), jW_id (by omega), if_pos (by omega)]
        refine v_mean hN hX hc (fun M8 hX8 => ⟨fun q => ?_, fun q => ?_⟩) (by omega)
        · rw [if_pos (by omega), if_pos (f_eq f_zero)]
          exact hj _ _ ⟨rfl, hX8⟩
        · rw [if_neg (by omega)]
          have e1 : x7 = sumL (aNow a) c (-1) := by rw [sumL_all]; exact h7
          have hnn := f_num (sumL (aNow a) c (-1)) ((allX (aNow a) c).length : Int) (by omega) (by omega)
          rw [e1, h5]
          refine ⟨f_n32 hnn, ?_⟩
          rw [if_pos (f_eq hnn)]
          exact hj _ _ ⟨rfl, hX8⟩
    obtain ⟨e33, hX⟩ := h33
    have hlook : ix < x5 → 0 ≤ ix → ∃ e : eE, E[ix.toNat]? = some e := fun q q0 => ⟨_, List.getElem?_eq_getElem (by omega)⟩
    refine jL_s (fun x36 => x36 = 1) (fun j hj => ?_) (fun x36 h36 => ?_)
    · rw [if_neg (by omega)]
      rcases h24 with ⟨e24, q0, q1, q2⟩ | ⟨e24, q⟩
      · rw [if_pos e24]
        by_cases q3 : ix < x5
        · rw [if_pos q3]
          obtain ⟨e, he⟩ := hlook q3 q0
          have h16' := hat _ e he pt q1 q2
          rw [Int.toNat_of_nonneg q0] at h16'
          obtain ⟨g1, g2, g3, g4⟩ := hin _ e he
          by_cases p0 : pt = 0
          · rw [if_pos p0] at h16'
            rw [if_pos p0, if_neg (by omega)]; exact hj _ rfl
          · rw [if_neg p0] at h16'
            rw [if_neg p0]
            by_cases p1 : pt = 1
            · rw [if_pos p1] at h16'
              rw [if_pos p1, if_neg (by omega), if_pos (by omega)]; exact hj _ rfl
            · rw [if_neg p1] at h16'
              rw [if_neg p1, if_neg (by omega), if_pos (by omega)]; exact hj _ rfl
        · rw [if_neg q3]
          rw [explodedAt_in hc ⟨q0, q1, q2⟩, exAt_none hE1 hE2 (by omega)] at h16
          rw [if_pos h16]; exact hj _ rfl
      · rw [if_neg (by omega)]
        rw [a_explodedAt, if_neg (not_not_intro hc), if_pos q] at h16
        rw [if_pos h16]; exact hj _ rfl
    have h36 : x36 = 1 := h36
    subst h36
    rw [if_neg (by omega)]
    rcases h24 with ⟨e24, q0, q1, q2⟩ | ⟨e24, q⟩
    · rw [if_pos e24]
      by_cases q4 : ix ≤ 0
      · rw [if_pos q4]; exact K M7 hX
      rw [if_neg q4]
      by_cases q3 : ix < x5
      · rw [if_pos q3]
        obtain ⟨e, he⟩ := hlook q3 q0
        obtain ⟨b, hb⟩ : ∃ b : eE, E[(ix - 1).toNat]? = some b := ⟨_, List.getElem?_eq_getElem (by omega)⟩
        obtain ⟨⟨g1, g1a, g1b⟩, g2, g3, g4⟩ := hin _ e he
        have hab : aheadP d b e := by
          obtain ⟨i1, e1⟩ := List.getElem?_eq_some_iff.mp hb
          obtain ⟨i2, e2⟩ := List.getElem?_eq_some_iff.mp he
          have := (List.pairwise_iff_getElem.mp hE1) (ix - 1).toNat ix.toNat i1 i2 (by omega)
          rw [e1, e2] at this
          exact this
        have he' := hat _ e he
        have hb' := hat _ b hb
        rw [Int.toNat_of_nonneg q0] at he'
        rw [Int.toNat_of_nonneg (by omega : 0 ≤ ix - 1)] at hb'
        have e0 := he' 0 (by decide) (by decide)
        have e1 := he' 1 (by decide) (by decide)
        have e2 := he' 2 (by decide) (by decide)
        have b0 := hb' 0 (by decide) (by decide)
        have b1 := hb' 1 (by decide) (by decide)
        have b2 := hb' 2 (by decide) (by decide)
        rw [if_pos rfl] at e0 b0
        rw [if_neg (by decide), if_pos rfl] at e1 b1
        rw [if_neg (by decide), if_neg (by decide)] at e2 b2
        rw [jW_id (by omega : jR (ix - 1))]
        refine v_explodedAt hN hX (fun t0 M8 ht0 hX => ?_)
        refine v_explodedAt hN hX (fun t1 M9 ht1 hX => ?_)
        refine v_explodedAt hN hX (fun t2 M10 ht2 hX => ?_)
        refine v_explodedAt hN hX (fun t3 M11 ht3 hX => ?_)
        rw [e0] at ht0
        rw [b0] at ht1
        rw [e1] at ht2
        rw [b1] at ht3
        have fin : ∀ M' : jM, XR M' a → w_X6_explodedAt N M' 0 c d ix 2 (fun x46 M47 => (w_X6_numberAt N M47 0 t2 c x46 (fun x48 M49 => (if x48 = t0 then (k 1 M49) else (k 0 M49))))) := by
          intro M' hX'
          refine v_explodedAt hN hX' (fun t4 M12 ht4 hX12 => ?_)
          rw [e2] at ht4
          refine v_numberAt hN hX12 (fun t5 M13 ht5 hX13 => ?_)
          rw [ht4, ht2, g4] at ht5
          rw [if_pos (by omega)]
          exact K M13 hX13
        unfold aheadP at hab
        by_cases cd : d = 0
        · rw [if_pos cd] at hab
          rw [if_pos cd, if_pos (by omega)]
          by_cases c1 : t1 = t0
          · rw [if_pos c1]
            by_cases c2 : t3 < t2
            · rw [if_pos c2]; exact fin M11 hX
            · rw [if_neg c2, if_pos (by omega)]
              refine v_explodedAt hN hX (fun t6 M14 ht6 hX14 => ?_)
              refine v_explodedAt hN hX14 (fun t7 M15 ht7 hX15 => ?_)
              rw [b2] at ht6
              rw [e2] at ht7
              rw [if_pos (by omega)]
              exact fin M15 hX15
          · rw [if_neg c1]; exact fin M11 hX
        · rw [if_neg cd] at hab
          rw [if_neg cd, if_neg (by omega)]
          by_cases c1 : t1 = t0
          · rw [if_pos c1]
            by_cases c2 : t3 < t2
            · rw [if_pos c2]; exact fin M11 hX
            · rw [if_neg c2, if_pos (by omega)]
              refine v_explodedAt hN hX (fun t6 M14 ht6 hX14 => ?_)
              refine v_explodedAt hN hX14 (fun t7 M15 ht7 hX15 => ?_)
              rw [b2] at ht6
              rw [e2] at ht7
              rw [if_pos (by omega)]
              exact fin M15 hX15
          · rw [if_neg c1]; exact fin M11 hX
      · rw [if_neg q3]; exact K M7 hX
    · rw [if_neg (by omega)]; exact K M7 hX
  · have hno : ∀ {sm mm : Int} {kx : Int → Int → jM → Prop}, kx sm mm M5 → lp_L_would_154 N 0 c x3 kx N sm mm 0 M5 := by
      intro sm mm kx hk
      obtain ⟨n, hn⟩ : ∃ n, N = n + 1 := ⟨N - 1, by omega⟩
      have hgen : ∀ n, lp_L_would_154 N 0 c x3 kx (n + 1) sm mm 0 M5 := by
        intro n
        rw [lp_L_would_154]
        refine v_records hN hX (fun w hw => ?_)
        split
        · rw [if_neg (by omega)]; exact hk
        · exact hk
      have := hgen n
      rw [← hn] at this
      exact this
    refine hno ?_
    rw [if_neg (by omega)]
    rw [a_exploded, if_pos hc] at h5
    rw [a_total, if_pos (Or.inl hc)] at h7 h20
    rw [a_explodedAt, if_pos hc] at h16
    rw [a_repeated, if_pos hc] at h22
    rw [if_pos h5, if_pos h7, if_pos h16, if_pos h20, if_pos h22]
    refine xs_mean (by omega) hX (fun M6 _ hX6 => ?_)
    unfold meanP
    rw [if_pos hc]
    dsimp only
    rw [if_pos (f_eq f_no)]
    exact K M6 hX6
