/-! select, explodedAt, repeated of the reference -/
theorem mpasses_eq (v t x : Int) (k : Int → Prop) : w_X7_passes v t x k = k (bI (pB t x v)) := by
  unfold w_X7_passes pB
  by_cases t0 : t = 0
  · rw [if_pos t0, if_pos t0]
    by_cases q : v < x
    · rw [if_pos q]; simp [q, bI]
    · rw [if_neg q]; simp [q, bI]
  · rw [if_neg t0, if_neg t0]
    by_cases t1 : t = 1
    · rw [if_pos t1, if_pos t1]
      by_cases q : v = x
      · rw [if_pos q]; simp [q, bI]
      · rw [if_neg q]; simp [q, bI]
    · rw [if_neg t1, if_neg t1]
      by_cases q : v ≤ x
      · rw [if_pos q, decide_eq_false (by omega)]; rfl
      · rw [if_neg q, decide_eq_true (by omega)]; rfl
theorem misSel_lp {M : jM} {B : List Int} {t x : Int} {kx : Int → Prop} (hrow : ∀ (i : Nat) (x : Int), B[i]? = some x → M 258 i = x) (hl : B.length ≤ 20) (H : kx (B.countP (pB t x) : Nat)) : ∀ (d n p : Nat), d < n → p + d = B.length → lp_X7_isSelected_14 252 t x B.length M kx n (((B.take p).countP (pB t x) : Nat) : Int) p := by
  intro d
  induction d with
  | zero =>
    intro n p hn hp
    obtain ⟨n, rfl⟩ : ∃ m, n = m + 1 := ⟨n - 1, by omega⟩
    rw [lp_X7_isSelected_14, if_neg (by omega), List.take_of_length_le (by omega)]
    exact H
  | succ d ih =>
    intro n p hn hp
    obtain ⟨n, rfl⟩ : ∃ m, n = m + 1 := ⟨n - 1, by omega⟩
    have hpl : p < B.length := by omega
    have e := countP_take (P := pB t x) hpl
    have hle : (B.take p).countP (pB t x) ≤ p := Nat.le_trans List.countP_le_length (by rw [List.length_take]; omega)
    have hx : B[p]? = some (B.getD p 0) := by
      rw [List.getD_eq_getElem?_getD, List.getElem?_eq_getElem hpl]
      rfl
    rw [lp_X7_isSelected_14, if_pos (by omega)]
    simp only [Int.reduceAdd]
    rw [hrow p _ hx, mpasses_eq]
    simp only [bI_0, jL]
    refine ⟨by omega, ?_⟩
    have := ih n (p + 1) (by omega) (by omega)
    by_cases z : pB t x (B.getD p 0) = true
    · rw [if_neg (by rw [z]; decide)]
      rw [if_pos z] at e
      rw [e] at this
      rw [jW_id (by omega), jW_id (by omega)]
      exact this
    · rw [if_pos (by simpa using z)]
      rw [if_neg z] at e
      rw [e] at this
      rw [jW_id (by omega), jW_id (by omega), Int.add_zero]
      exact this
theorem misSelected_k {N : Nat} {M : jM} {s : aS} {O : List Int} {i : Nat} {id c t x e : Int} {k : Int → jM → Prop} (hN : 5000 ≤ N) (h : MO M 253 0 s O) (hi : O[i]? = some id) (hc : sCol c) (H : ∀ M', wf M M' → k (bI (selB (colS s id c) t x e)) M') : w_X7_isSelected N M 252 i c t x e k := by
  unfold w_X7_isSelected
  have hcok := h.cok hi hc
  refine tells_k hN h hi hc (fun M1 h1 => ?_)
  have H := H M1 h1.1
  refine misSel_lp (B := colS s id c) h1.2.2.2 hcok.1 ?_ (colS s id c).length N 0 (by omega) (by omega)
  have hle : (colS s id c).countP (pB t x) ≤ (colS s id c).length := List.countP_le_length
  unfold selB at H
  by_cases z : e = 0
  · rw [if_pos z]
    by_cases y : 0 < (colS s id c).countP (pB t x)
    · rw [if_neg (by omega)]
      simpa [z, y, bI] using H
    · rw [if_pos (by omega)]
      simpa [z, y, bI] using H
  · rw [if_neg z]
    by_cases y : (colS s id c).length = 0
    · rw [if_pos (by omega)]
      simpa [z, show ¬ 0 < (colS s id c).countP (pB t x) by omega, bI] using H
    · rw [if_neg (by omega)]
      by_cases w : (colS s id c).countP (pB t x) = (colS s id c).length
      · rw [if_pos (by omega)]
        rw [decide_eq_true (p := 0 < (colS s id c).countP (pB t x)) (by omega), decide_eq_true w] at H
        simpa [bI] using H
      · rw [if_neg (by omega)]
        rw [decide_eq_false z, decide_eq_false w] at H
        simpa [bI] using H
theorem mselect_lp {N : Nat} {M : jM} {s : aS} {O : List Int} {c t x e l : Int} {kx : jM → Prop} (hN : 5000 ≤ N) (hc : sCol c) (hl : sLst l) (G : Int → Bool) (hG : ∀ i, G i = (decide (i ∈ sI s) && selB (colS s i c) t x e))
    (H : ∀ M', mfr M M' → MO M' 253 0 (setL s l G) O → kx M') : ∀ (d n p : Nat) (M1 : jM), d < n → p + d = 100 → mfr M M1 → MO M1 253 0 (setL s l (mixL (sL s l) G p)) O → lp_X7_goSelect_44 N 252 c t x e l kx n p M1 := by
  intro d
  induction d with
  | zero =>
    intro n p M1 hn hp hr hO
    obtain ⟨n, rfl⟩ : ∃ m, n = m + 1 := ⟨n - 1, by omega⟩
    rw [lp_X7_goSelect_44, if_neg (by omega)]
    refine H M1 hr (hO.lcong (fun i i0 i1 => ?_))
    unfold mixL
    rw [if_pos (by omega)]
  | succ d ih =>
    intro n p M1 hn hp hr hO
    obtain ⟨n, rfl⟩ : ∃ m, n = m + 1 := ⟨n - 1, by omega⟩
    rw [lp_X7_goSelect_44, if_pos (by omega)]
    simp (disch := omega) only [jL, jW_id]
    have go : ∀ (v : Bool) (M2 : jM), mfr M1 M2 → MO M2 253 0 (setL s l (mixL (sL s l) G p)) O → G p = v → w_X7_laysIn M2 252 l p (bI v) (fun M11 => lp_X7_goSelect_44 N 252 c t x e l kx n (p + 1) M11) := fun v M2 f2 hO2 hv => by
      refine laysIn_k hO2 hl (by omega) (by omega) (fun M' f' hM' => ?_)
      refine ih n (p + 1) M' (by omega) (by omega) (hr.tr (f2.tr (mfr.of f'))) ?_
      rw [setL_at, setL_set, ← hv, mixL_next] at hM'
      exact hM'
    have hGp := hG p
    refine placeOf_k (by omega) hO (fun i hi => ?_) (fun hn => ?_)
    · have hid := (hO.rec hi).2.2
      have hid : (p : Int) ∈ sI s := hid
      rw [if_neg (by omega)]
      refine misSelected_k hN hO hi hc (fun M2 f2 => ?_)
      simp only [bI_0]
      rw [decide_eq_true hid, Bool.true_and] at hGp
      by_cases z : selB (colS s p c) t x e = true
      · rw [if_neg (by show ¬ selB (colS s p c) t x e = false; rw [z]; decide)]
        exact go true M2 f2.mfr (f2.MO hO) (by rw [hGp, z])
      · rw [if_pos (by show selB (colS s p c) t x e = false; simpa using z)]
        exact go false M2 f2.mfr (f2.MO hO) (by rw [hGp]; simpa using z)
    · have hn : ¬ (p : Int) ∈ sI s := hn
      rw [if_pos (by omega)]
      rw [decide_eq_false hn, Bool.false_and] at hGp
      exact go false M1 mfr.rfl hO hGp
theorem setL_self {s : aS} {l : Int} : setL s l (sL s l) = s := by
  show (sI s, sK s, sF s, sA s, sC s, uI (sL s) l (sL s l)) = _
  have : uI (sL s) l (sL s l) = sL s := by
    funext j
    simp only [uI]
    split
    · next q => rw [q]
    · rfl
  rw [this]
  rfl
theorem ms_select {N : Nat} {M : jM} {a : aA} {c t x e l : Int} {k : Int → jM → Prop} (hN : 5000 ≤ N) (hM : MR M a) (H : ∀ M', frM M M' → MR M' (a_select a c t x e l).2 → k (a_select a c t x e l).1 M') : w_X7_select N M 252 c t x e l k := by
  unfold w_X7_select
  refine msBegin_k hN hM (fun M1 h1 hB f1 => ?_)
  have hS := h1.now
  obtain ⟨O, hO⟩ := MS_iff.mp hS
  unfold a_select at H
  have fx : frM M M1 := fun c hc => f1 c (by omega)
  unfold w_X7_goSelect
  simp only [isColumn_eq, isList_eq, b01, ite_not, in_eq]
  by_cases hc : sCol c
  · rw [if_pos hc]
    by_cases hl : sLst l
    · rw [if_pos hl]
      rw [if_neg (fun z => z.elim (fun z => z hc) (fun z => z hl))] at H
      by_cases ht : 0 ≤ t ∧ t ≤ 2
      · rw [if_pos ht]
        by_cases hx : -1000000 ≤ x ∧ x ≤ 1000000
        · rw [if_pos hx]
          rw [if_neg (fun z => z.elim (fun z => z ht) (fun z => z hx))] at H
          refine mselect_lp (M := M1) (s := aNow a) (O := O) hN hc hl _ (fun i => rfl) (fun M2 f2 hO2 => ?_) 100 N 0 M1 (by omega) (by omega) mfr.rfl ?_
          · refine sizeOf_k hN hO2 hl ?_
            have hnn := nList_nn (setL (aNow a) l (fun i => decide (i ∈ sI (aNow a)) && selB (colS (aNow a) i c) t x e)) l
            exact msKeep_k hN h1 hB f2 (MS_iff.mpr ⟨_, hO2⟩) (by omega) (fun M' f' hM' => H M' (fun q hq => by rw [f' q hq, fx q hq]) hM')
          · refine MO.lcong (g := sL (aNow a) l) (by rw [setL_self]; exact hO) (fun i i0 i1 => ?_)
            unfold mixL
            rw [if_neg (by omega)]
        · rw [if_pos (Or.inr hx)] at H
          rw [if_neg hx]
          exact keepsNo_k (by omega) (H M1 fx h1)
      · rw [if_pos (Or.inl ht)] at H
        rw [if_neg ht]
        exact keepsNo_k (by omega) (H M1 fx h1)
    · rw [if_pos (Or.inr hl)] at H
      rw [if_neg hl]
      exact keepsNo_k (by omega) (H M1 fx h1)
  · rw [if_pos (Or.inl hc)] at H
    rw [if_neg hc]
    exact keepsNo_k (by omega) (H M1 fx h1)
/-! explodedAt: by rank -/
theorem ahead_trans {d : Int} {a b c : eE} (h : aheadP d a b) (g : aheadP d b c) : aheadP d a c := by
  unfold aheadP at *
  by_cases z : d = 0
  · rw [if_pos z] at *
    omega
  · rw [if_neg z] at *
    omega
theorem ahead_tri {d : Int} (a b : eE) : a = b ∨ aheadP d a b ∨ aheadP d b a := by
  by_cases h : a.1 = b.1 ∧ a.2.1 = b.2.1 ∧ a.2.2 = b.2.2
  · exact Or.inl (Prod.ext h.1 (Prod.ext h.2.1 h.2.2))
  · refine Or.inr ?_
    unfold aheadP
    by_cases z : d = 0
    · rw [if_pos z, if_pos z]
      omega
    · rw [if_neg z, if_neg z]
      omega
theorem countP_lt {α : Type} {p q : α → Bool} {E : List α} {x : α} (h : ∀ b ∈ E, p b = true → q b = true) (hx : x ∈ E) (h1 : p x = false) (h2 : q x = true) : E.countP p < E.countP q := by
  induction E with
  | nil => simp at hx
  | cons y E ih =>
    have hm : E.countP p ≤ E.countP q := List.countP_mono_left (fun b hb => h b (by simp [hb]))
    rw [List.countP_cons, List.countP_cons]
    rcases List.mem_cons.mp hx with e | e
    · subst e
      rw [h1, h2]
      simp
      omega
    · have hi := ih (fun b hb => h b (by simp [hb])) e
      have hy := h y (by simp)
      by_cases z : p y = true
      · rw [if_pos z, if_pos (hy z)]
        omega
      · rw [if_neg z]
        omega
def rkE (d : Int) (E : List eE) (y : eE) : Nat := E.countP (fun b => aheadB d b y)
theorem rkE_lt {d : Int} {E : List eE} {x y : eE} (hx : x ∈ E) (h : aheadP d x y) : rkE d E x < rkE d E y :=
  countP_lt (fun b _ hb => aheadB_iff.mpr (ahead_trans (aheadB_iff.mp hb) h)) hx (by
    have : ¬ aheadB d x x = true := fun z => ahead_irrefl (aheadB_iff.mp z)
    simpa using this) (aheadB_iff.mpr h)
theorem rkE_inj {d : Int} {E : List eE} {x y : eE} (hx : x ∈ E) (hy : y ∈ E) (h : rkE d E x = rkE d E y) : x = y := by
  rcases ahead_tri (d := d) x y with z | z | z
  · exact z
  · have := rkE_lt hx z; omega
  · have := rkE_lt hy z; omega
theorem rkE_perm {d : Int} {E A : List eE} (h : E.Perm A) (y : eE) : rkE d E y = rkE d A y := h.countP_eq _
theorem exAt_yes {d i p : Int} {E A : List eE} (h : E.Perm A) {y : eE} (hy : y ∈ E) (hr : (rkE d E y : Int) = i) : exAt A d i p = if p = 0 then y.1 else if p = 1 then y.2.1 else y.2.2 := by
  unfold exAt
  cases hf : A.find? (fun e => decide (((A.countP (fun b => aheadB d b e) : Nat) : Int) = i)) with
  | none =>
    have := List.find?_eq_none.mp hf y (h.mem_iff.mp hy)
    rw [rkE_perm h] at hr
    unfold rkE at hr
    simp [hr] at this
  | some b =>
    have h1 := List.find?_some hf
    have h2 := List.mem_of_find?_eq_some hf
    have q : ((rkE d A b : Nat) : Int) = i := by simpa [rkE] using h1
    rw [rkE_perm h] at hr
    have : b = y := rkE_inj (d := d) h2 (h.mem_iff.mp hy) (by omega)
    rw [this]
theorem exAt_no {d i p : Int} {E A : List eE} (h : E.Perm A) (hn : ∀ y ∈ E, (rkE d E y : Int) ≠ i) : exAt A d i p = -1000007 := by
  unfold exAt
  cases hf : A.find? (fun e => decide (((A.countP (fun b => aheadB d b e) : Nat) : Int) = i)) with
  | none => rfl
  | some b =>
    have h1 := List.find?_some hf
    have h2 := List.mem_of_find?_eq_some hf
    have q : ((rkE d A b : Nat) : Int) = i := by simpa [rkE] using h1
    rw [← rkE_perm h] at q
    exact absurd q (hn b (h.mem_iff.mpr h2))
theorem isAhead_eq {M0 M : jM} {E : List eE} {a b : Nat} {x y : eE} {d : Int} (h : EM M0 M E) (hl : E.length ≤ 200) (ha : E[a]? = some x) (hb : E[b]? = some y) {k : Int → Prop} (H : k (bI (aheadB d x y))) : w_X7_isAhead M 252 a b d k := by
  have al : a < E.length := (List.getElem?_eq_some_iff.mp ha).1
  have bl : b < E.length := (List.getElem?_eq_some_iff.mp hb).1
  have ea := h.2 a x ha
  have eb := h.2 b y hb
  have b0 : 0 ≤ (a : Int) ∧ (a : Int) < 200 := by omega
  have b1 : 0 ≤ (b : Int) ∧ (b : Int) < 200 := by omega
  unfold w_X7_isAhead
  simp only [jL, Int.reduceAdd, ea.1, ea.2.1, ea.2.2, eb.1, eb.2.1, eb.2.2]
  have tail : aheadB d x y = decide (x.1 = y.1 ∧ (x.2.1 < y.2.1 ∨ (x.2.1 = y.2.1 ∧ x.2.2 < y.2.2))) → (jB (a : Int) 200 ∧ (jB (b : Int) 200 ∧ (if x.1 = y.1 then (jB (a : Int) 200 ∧ (jB (b : Int) 200 ∧ (if x.2.1 < y.2.1 then (k 1) else (jB (a : Int) 200 ∧ (jB (b : Int) 200 ∧ (if x.2.1 = y.2.1 then (jB (a : Int) 200 ∧ (jB (b : Int) 200 ∧ (if x.2.2 < y.2.2 then (k 1) else (k 0)))) else (k 0))))))) else (k 0)))) := by
    intro e
    rw [e] at H
    refine ⟨b0, b1, ?_⟩
    by_cases z1 : x.1 = y.1
    · rw [if_pos z1]
      refine ⟨b0, b1, ?_⟩
      by_cases z2 : x.2.1 < y.2.1
      · rw [if_pos z2]
        simpa [z1, z2, bI] using H
      · rw [if_neg z2]
        refine ⟨b0, b1, ?_⟩
        by_cases z3 : x.2.1 = y.2.1
        · rw [if_pos z3]
          refine ⟨b0, b1, ?_⟩
          by_cases z4 : x.2.2 < y.2.2
          · rw [if_pos z4]
            simpa [z1, z3, z4, bI] using H
          · rw [if_neg z4]
            simpa [z1, z3, z4, bI] using H
        · rw [if_neg z3]
          simpa [z1, z2, z3, bI] using H
    · rw [if_neg z1]
      simpa [z1, bI] using H
  have head : aheadB d x y = true → k 1 := fun e => by
    rw [e] at H
    simpa [bI] using H
  by_cases d0 : d = 0
  · rw [if_pos d0]
    refine ⟨b0, b1, ?_⟩
    by_cases z : x.1 < y.1
    · rw [if_pos z, if_neg (by decide)]
      exact head (by unfold aheadB; simp [d0, z])
    · rw [if_neg z, if_pos (by decide)]
      exact tail (by unfold aheadB; simp [d0, z])
  · rw [if_neg d0]
    refine ⟨b0, b1, ?_⟩
    by_cases z : x.1 ≤ y.1
    · rw [if_pos z, if_pos (by decide)]
      exact tail (by unfold aheadB; rw [if_neg d0, decide_eq_false (p := y.1 < x.1) (by omega), Bool.or_false])
    · rw [if_neg z, if_neg (by decide)]
      exact head (by unfold aheadB; rw [if_neg d0, decide_eq_true (p := y.1 < x.1) (by omega), Bool.or_true])
theorem mex_lp1 {M0 M : jM} {E : List eE} {d : Int} {a : Nat} {y : eE} {kx : Int → Prop} (h : EM M0 M E) (hl : E.length ≤ 200) (ha : E[a]? = some y) (H : kx (rkE d E y : Nat)) : ∀ (m n p : Nat), m < n → p + m = E.length → lp_X7_explodedAt_54 252 d E.length a M kx n (((E.take p).countP (fun b => aheadB d b y) : Nat) : Int) p := by
  intro m
  induction m with
  | zero =>
    intro n p hn hp
    obtain ⟨n, rfl⟩ : ∃ m, n = m + 1 := ⟨n - 1, by omega⟩
    rw [lp_X7_explodedAt_54, if_neg (by omega), List.take_of_length_le (by omega)]
    exact H
  | succ m ih =>
    intro n p hn hp
    obtain ⟨n, rfl⟩ : ∃ m, n = m + 1 := ⟨n - 1, by omega⟩
    have hpl : p < E.length := by omega
    have hx : E[p]? = some E[p] := List.getElem?_eq_getElem hpl
    have hle : (E.take p).countP (fun b => aheadB d b y) ≤ p := Nat.le_trans List.countP_le_length (by rw [List.length_take]; omega)
    have ec : (E.take (p + 1)).countP (fun b => aheadB d b y) = (E.take p).countP (fun b => aheadB d b y) + (if aheadB d E[p] y then 1 else 0) := by
      rw [List.take_succ, hx, List.countP_append]
      simp [List.countP_cons]
    have ih := ih n (p + 1) (by omega) (by omega)
    rw [ec] at ih
    rw [lp_X7_explodedAt_54, if_pos (by omega)]
    refine isAhead_eq h hl hx ha ?_
    simp only [bI_0, jL]
    by_cases z : aheadB d E[p] y = true
    · rw [if_neg (by rw [z]; decide)]
      rw [if_pos z] at ih
      rw [jW_id (by omega), jW_id (by omega)]
      exact ih
    · rw [if_pos (by simpa using z)]
      rw [if_neg z] at ih
      rw [jW_id (by omega), jW_id (by omega), Int.add_zero]
      exact ih
theorem mex_lp2 {N : Nat} {M0 M : jM} {E : List eE} {d q : Int} {kx : Int → Prop} (hN : 5000 ≤ N) (h : EM M0 M E) (hl : E.length ≤ 200) (H : ∀ z : Int, ((z = -1000007 ∧ ∀ y ∈ E, (rkE d E y : Int) ≠ q) ∨ (∃ (j : Nat) (y : eE), z = j ∧ E[j]? = some y ∧ (rkE d E y : Int) = q)) → kx z) : ∀ (m n p : Nat) (z : Int), m < n → p + m = E.length → ((z = -1000007 ∧ ∀ y ∈ E.take p, (rkE d E y : Int) ≠ q) ∨ (∃ (j : Nat) (y : eE), z = j ∧ E[j]? = some y ∧ (rkE d E y : Int) = q)) → lp_X7_explodedAt_41 N 252 d q E.length M kx n z p := by
  intro m
  induction m with
  | zero =>
    intro n p z hn hp hz
    obtain ⟨n, rfl⟩ : ∃ m, n = m + 1 := ⟨n - 1, by omega⟩
    rw [lp_X7_explodedAt_41, if_neg (by omega)]
    rw [List.take_of_length_le (by omega)] at hz
    exact H z hz
  | succ m ih =>
    intro n p z hn hp hz
    obtain ⟨n, rfl⟩ : ∃ m, n = m + 1 := ⟨n - 1, by omega⟩
    have hpl : p < E.length := by omega
    have hx : E[p]? = some E[p] := List.getElem?_eq_getElem hpl
    have et : E.take (p + 1) = E.take p ++ [E[p]] := by
      rw [List.take_succ, hx]
      rfl
    rw [lp_X7_explodedAt_41, if_pos (by omega)]
    refine mex_lp1 h hl hx ?_ E.length N 0 (by omega) (by omega)
    simp only [jL]
    rw [jW_id (by omega)]
    by_cases w : (rkE d E E[p] : Int) = q
    · rw [if_pos w]
      exact ih n (p + 1) _ (by omega) (by omega) (Or.inr ⟨p, E[p], rfl, hx, w⟩)
    · rw [if_neg w]
      refine ih n (p + 1) _ (by omega) (by omega) ?_
      rcases hz with ⟨z1, z2⟩ | z1
      · refine Or.inl ⟨z1, fun y hy => ?_⟩
        rw [et] at hy
        rcases List.mem_append.mp hy with hy | hy
        · exact z2 y hy
        · have : y = E[p] := by simpa using hy
          rw [this]
          exact w
      · exact Or.inr z1
theorem ms_explodedAt {N : Nat} {M : jM} {a : aA} {c d i p : Int} {k : Int → jM → Prop} (hN : 5000 ≤ N) (hM : MR M a) (H : ∀ M', frM M M' → MR M' a → k (a_explodedAt a c d i p) M') : w_X7_explodedAt N M 252 c d i p k := by
  unfold w_X7_explodedAt
  obtain ⟨O, hO⟩ := MS_iff.mp hM.now
  unfold a_explodedAt at H
  simp only [isColumn_eq, b01, ite_not, in_eq]
  by_cases hc : sCol c
  · rw [if_neg (not_not_intro hc)] at H
    rw [if_pos hc]
    by_cases hi : i < 0
    · rw [if_pos (Or.inl hi)] at H
      rw [if_pos hi]
      exact H M wf.rfl.frM hM
    · rw [if_neg hi]
      by_cases hp : 0 ≤ p ∧ p ≤ 2
      · rw [if_neg (fun z => z.elim hi (fun z => z hp))] at H
        rw [if_pos hp]
        have hlen := hO.entlen hc
        refine laysEntries_k hN hO hc (fun M' h' => ?_)
        have H := H M' h'.1.frM (hM.wf h'.1)
        refine mex_lp2 hN h' hlen (fun z hz => ?_) (entO (aNow a) c O).length N 0 (-1000007) (by omega) (by omega) (Or.inl ⟨rfl, fun y hy => by simp at hy⟩)
        rcases hz with ⟨z1, z2⟩ | ⟨j, y, z1, z2, z3⟩
        · rw [exAt_no (entO_perm hO.2.2.1) z2] at H
          rw [if_pos (by omega)]
          exact H
        · have hjl : j < (entO (aNow a) c O).length := (List.getElem?_eq_some_iff.mp z2).1
          rw [exAt_yes (entO_perm hO.2.2.1) (List.mem_of_getElem? z2) z3] at H
          rw [if_neg (by omega), z1]
          simp only [Int.reduceAdd]
          have hy := h'.2 j y z2
          rw [hy.1, hy.2.1, hy.2.2]
          by_cases p0 : p = 0
          · rw [if_pos p0] at H ⊢
            exact ⟨by omega, H⟩
          · rw [if_neg p0] at H ⊢
            by_cases p1 : p = 1
            · rw [if_pos p1] at H ⊢
              exact ⟨by omega, H⟩
            · rw [if_neg p1] at H ⊢
              exact ⟨by omega, H⟩
      · rw [if_pos (Or.inr hp)] at H
        rw [if_neg hp]
        exact H M wf.rfl.frM hM
  · rw [if_pos hc] at H
    rw [if_neg hc]
    exact H M wf.rfl.frM hM
/-! repeated -/
def refN : List Int → List Int → Nat
  | _, [] => 0
  | P, x :: X => (if P.count x = 0 ∧ 0 < X.count x then 1 else 0) + refN (P ++ [x]) X
def repP (P : List Int) : List Int → Nat
  | [] => 0
  | x :: X => (if P.count x = 0 ∧ X.count x = 1 then 1 else 0) + repP P X
theorem repP_snoc {P X : List Int} {x : Int} : repP P X = repP (P ++ [x]) X + (if P.count x = 0 ∧ 2 ≤ X.count x then 1 else 0) := by
  induction X with
  | nil => simp [repP]
  | cons y Y ih =>
    simp only [repP, List.count_append, List.count_cons, List.count_nil] at ih ⊢
    rw [ih]
    by_cases e : x = y
    · subst e
      simp only [beq_self_eq_true, if_true]
      by_cases h1 : P.count x = 0
      · by_cases h2 : Y.count x = 1
        · rw [if_pos (by omega), if_neg (by omega), if_neg (by omega), if_pos (by omega)]; omega
        · by_cases h3 : 2 ≤ Y.count x
          · rw [if_neg (by omega), if_pos (by omega), if_neg (by omega), if_pos (by omega)]; omega
          · rw [if_neg (by omega), if_neg (by omega), if_neg (by omega), if_neg (by omega)]; omega
      · rw [if_neg (by omega), if_neg (by omega), if_neg (by omega), if_neg (by omega)]; omega
    · have e2 : ¬ (x == y) = true := by simpa using e
      have e3 : ¬ (y == x) = true := by simpa using Ne.symm e
      simp only [e2, e3, if_false, Nat.add_zero, Bool.false_eq_true]
      omega
theorem refN_eq {X : List Int} : ∀ {P : List Int}, refN P X = repP P X := by
  induction X with
  | nil => intro P; rfl
  | cons x X ih =>
    intro P
    simp only [refN, repP]
    rw [ih, repP_snoc (P := P) (X := X) (x := x)]
    by_cases h1 : P.count x = 0
    · by_cases h2 : X.count x = 0
      · rw [if_neg (by omega), if_neg (by omega), if_neg (by omega)]; omega
      · by_cases h3 : X.count x = 1
        · rw [if_pos (by omega), if_pos (by omega), if_neg (by omega)]; omega
        · rw [if_pos (by omega), if_neg (by omega), if_pos (by omega)]; omega
    · rw [if_neg (by omega), if_neg (by omega), if_neg (by omega)]; omega
theorem repP_nil {X : List Int} : repP [] X = repN X := by
  induction X with
  | nil => rfl
  | cons x X ih =>
    simp only [repP, repN, List.count_nil, true_and]
    rw [ih]
theorem refN_le {X : List Int} : ∀ {P : List Int}, refN P X ≤ X.length := by
  induction X with
  | nil => intro P; simp [refN]
  | cons x X ih =>
    intro P
    have := ih (P := P ++ [x])
    simp only [refN, List.length_cons]
    split <;> omega
def befN (X : List Int) (a : Nat) (x : Int) (p : Nat) : Nat := (X.take (min p a)).count x
def behN (X : List Int) (a : Nat) (x : Int) (p : Nat) : Nat := ((X.drop (a + 1)).take (p - (a + 1))).count x
theorem count_take {X : List Int} {x y : Int} {p : Nat} (h : X[p]? = some y) : (X.take (p + 1)).count x = (X.take p).count x + (if y = x then 1 else 0) := by
  rw [List.take_succ, h, List.count_append]
  simp [List.count_cons]
theorem mrep_lp1 {M : jM} {X : List Int} {a : Nat} {x : Int} {kx : Int → Int → Prop} (hrow : ∀ (i : Nat) (y : Int), X[i]? = some y → M 259 i = y) (hl : X.length ≤ 200) (ha : X[a]? = some x) (H : kx ((X.take a).count x : Nat) ((X.drop (a + 1)).count x : Nat)) :
    ∀ (m n p : Nat), m < n → p + m = X.length → lp_X7_repeated_36 252 X.length a M kx n (befN X a x p : Nat) (behN X a x p : Nat) p := by
  have hal : a < X.length := (List.getElem?_eq_some_iff.mp ha).1
  intro m
  induction m with
  | zero =>
    intro n p hn hp
    obtain ⟨n, rfl⟩ : ∃ m, n = m + 1 := ⟨n - 1, by omega⟩
    rw [lp_X7_repeated_36, if_neg (by omega)]
    unfold befN behN
    rw [show min p a = a by omega, List.take_of_length_le (l := X.drop (a + 1)) (i := p - (a + 1)) (by rw [List.length_drop]; omega)]
    exact H
  | succ m ih =>
    intro n p hn hp
    obtain ⟨n, rfl⟩ : ∃ m, n = m + 1 := ⟨n - 1, by omega⟩
    have hpl : p < X.length := by omega
    have hx : X[p]? = some (X.getD p 0) := by
      rw [List.getD_eq_getElem?_getD, List.getElem?_eq_getElem hpl]
      rfl
    have ih := ih n (p + 1) (by omega) (by omega)
    have b1 : befN X a x p ≤ 200 := Nat.le_trans List.count_le_length (by rw [List.length_take]; omega)
    have b2 : behN X a x p ≤ 200 := Nat.le_trans List.count_le_length (by rw [List.length_take, List.length_drop]; omega)
    rw [lp_X7_repeated_36, if_pos (by omega)]
    simp only [jL, Int.reduceAdd, hrow p _ hx, hrow a _ ha]
    rcases Nat.lt_trichotomy p a with q | q | q
    · have e1 : befN X a x (p + 1) = befN X a x p + (if X.getD p 0 = x then 1 else 0) := by
        unfold befN
        rw [show min (p + 1) a = p + 1 by omega, show min p a = p by omega]
        exact count_take hx
      have e2 : behN X a x (p + 1) = behN X a x p := by
        unfold behN
        rw [show p + 1 - (a + 1) = p - (a + 1) by omega]
      rw [e1, e2] at ih
      rw [if_pos (by omega)]
      refine ⟨by omega, by omega, ?_⟩
      by_cases z : X.getD p 0 = x
      · rw [if_pos z] at ih ⊢
        rw [if_pos (by omega), jW_id (by omega), jW_id (by omega), jW_id (by omega), Int.add_zero]
        exact ih
      · rw [if_neg z] at ih ⊢
        rw [if_pos (by omega), jW_id (by omega), jW_id (by omega), jW_id (by omega), Int.add_zero, Int.add_zero]
        exact ih
    · have e1 : befN X a x (p + 1) = befN X a x p := by
        unfold befN
        rw [show min (p + 1) a = min p a by omega]
      have e2 : behN X a x (p + 1) = behN X a x p := by
        unfold behN
        rw [show p + 1 - (a + 1) = p - (a + 1) by omega]
      rw [e1, e2] at ih
      rw [if_neg (by omega), if_pos (by omega), jW_id (by omega), jW_id (by omega), jW_id (by omega), Int.add_zero, Int.add_zero]
      exact ih
    · have e1 : befN X a x (p + 1) = befN X a x p := by
        unfold befN
        rw [show min (p + 1) a = min p a by omega]
      have e2 : behN X a x (p + 1) = behN X a x p + (if X.getD p 0 = x then 1 else 0) := by
        unfold behN
        rw [show p + 1 - (a + 1) = p - (a + 1) + 1 by omega]
        refine count_take ?_
        rw [List.getElem?_drop, show a + 1 + (p - (a + 1)) = p by omega]
        exact hx
      rw [e1, e2] at ih
      rw [if_neg (by omega), if_neg (by omega), jW_id (a := ((befN X a x p : Nat) : Int) + 0) (by omega), Int.add_zero]
      refine ⟨by omega, by omega, ?_⟩
      by_cases z : X.getD p 0 = x
      · rw [if_pos z] at ih ⊢
        rw [jW_id (by omega), jW_id (by omega)]
        exact ih
      · rw [if_neg z] at ih ⊢
        rw [jW_id (by omega), jW_id (by omega), Int.add_zero]
        exact ih
theorem mrep_lp2 {N : Nat} {M : jM} {X : List Int} {kx : Int → Prop} (hN : 5000 ≤ N) (hrow : ∀ (i : Nat) (y : Int), X[i]? = some y → M 259 i = y) (hl : X.length ≤ 200) (H : kx (repN X : Nat)) :
    ∀ (m n p c : Nat), m < n → p + m = X.length → c + refN (X.take p) (X.drop p) = repN X → lp_X7_repeated_21 N 252 X.length M kx n c p := by
  have hle : repN X ≤ 200 := by
    rw [← repP_nil, ← refN_eq]
    exact Nat.le_trans refN_le hl
  intro m
  induction m with
  | zero =>
    intro n p c hn hp e
    obtain ⟨n, rfl⟩ : ∃ m, n = m + 1 := ⟨n - 1, by omega⟩
    rw [lp_X7_repeated_21, if_neg (by omega)]
    rw [List.drop_of_length_le (by omega)] at e
    simp only [refN, Nat.add_zero] at e
    rw [e]
    exact H
  | succ m ih =>
    intro n p c hn hp e
    obtain ⟨n, rfl⟩ : ∃ m, n = m + 1 := ⟨n - 1, by omega⟩
    have hpl : p < X.length := by omega
    have hx : X[p]? = some (X.getD p 0) := by
      rw [List.getD_eq_getElem?_getD, List.getElem?_eq_getElem hpl]
      rfl
    have et : X.take (p + 1) = X.take p ++ [X.getD p 0] := by
      rw [List.take_succ, hx]
      rfl
    rw [drop_at hx] at e
    simp only [refN] at e
    rw [← et] at e
    rw [lp_X7_repeated_21, if_pos (by omega)]
    have b0 : befN X p (X.getD p 0) 0 = 0 := by simp [befN]
    have b1 : behN X p (X.getD p 0) 0 = 0 := by simp [behN]
    have := mrep_lp1 (kx := (fun (x10 : Int) (x11 : Int) => (if x10 = 0 then (if x11 ≤ 0 then (jL (jW ((c : Int) + 0)) (fun x12 => (jL (jW ((p : Int) + 1)) (fun x13 => (lp_X7_repeated_21 N 252 X.length M kx n x12 x13))))) else (jL (jW ((c : Int) + 1)) (fun x14 => (jL (jW ((p : Int) + 1)) (fun x15 => (lp_X7_repeated_21 N 252 X.length M kx n x14 x15)))))) else (jL (jW ((c : Int) + 0)) (fun x16 => (jL (jW ((p : Int) + 1)) (fun x17 => (lp_X7_repeated_21 N 252 X.length M kx n x16 x17)))))))) hrow hl hx ?_ X.length N 0 (by omega) (by omega)
    · rw [b0, b1] at this
      exact this
    · simp only [jL]
      by_cases z1 : (X.take p).count (X.getD p 0) = 0
      · rw [if_pos (by omega)]
        by_cases z2 : (X.drop (p + 1)).count (X.getD p 0) = 0
        · rw [if_pos (by omega)]
          rw [if_neg (by omega), Nat.zero_add] at e
          rw [jW_id (by omega), jW_id (by omega), Int.add_zero]
          exact ih n (p + 1) c (by omega) (by omega) e
        · rw [if_neg (by omega)]
          rw [if_pos (by omega)] at e
          rw [jW_id (by omega), jW_id (by omega)]
          exact ih n (p + 1) (c + 1) (by omega) (by omega) (by omega)
      · rw [if_neg (by omega)]
        rw [if_neg (by omega), Nat.zero_add] at e
        rw [jW_id (by omega), jW_id (by omega), Int.add_zero]
        exact ih n (p + 1) c (by omega) (by omega) e
theorem ms_repeated {N : Nat} {M : jM} {a : aA} {c : Int} {k : Int → jM → Prop} (hN : 5000 ≤ N) (hM : MR M a) (H : ∀ M', frM M M' → MR M' a → k (a_repeated a c) M') : w_X7_repeated N M 252 c k := by
  unfold w_X7_repeated
  obtain ⟨O, hO⟩ := MS_iff.mp hM.now
  unfold a_repeated at H
  rw [isColumn_eq]
  simp only [b01, ite_not]
  by_cases hc : sCol c
  · rw [if_neg (not_not_intro hc)] at H
    rw [if_pos hc]
    have hlen := hO.entlen hc
    refine laysEntries_k hN hO hc (fun M' h' => ?_)
    have H := H M' h'.1.frM (hM.wf h'.1)
    have hp : ((entO (aNow a) c O).map (fun e => e.1)).Perm (allX (aNow a) c) := by
      rw [← allE_fst]
      exact (entO_perm hO.2.2.1).map _
    have hll : ((entO (aNow a) c O).map (fun e => e.1)).length = (entO (aNow a) c O).length := List.length_map _
    rw [← repN_perm hp] at H
    have := mrep_lp2 (M := M') (X := (entO (aNow a) c O).map (fun e => e.1)) (kx := fun x6 => k x6 M') hN (fun i y hi => ?_) (by omega) H (entO (aNow a) c O).length N 0 0 (by omega) (by omega) ?_
    · rw [hll] at this
      exact this
    · rw [List.getElem?_map] at hi
      cases hz : (entO (aNow a) c O)[i]? with
      | none => rw [hz] at hi; simp at hi
      | some e =>
        rw [hz] at hi
        have : e.1 = y := by simpa using hi
        rw [← this]
        exact (h'.2 i e hz).1
    · rw [List.take_zero, List.drop_zero, refN_eq, repP_nil, Nat.zero_add]
  · rw [if_pos hc] at H
    rw [if_neg hc]
    exact H M wf.rfl.frM hM
