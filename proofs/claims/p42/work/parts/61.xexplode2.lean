theorem SQ.self {M0 M : jM} {B : List Int} (h : SQ M0 M B) {M' : jM} (e6 : M' 246 = M 246) (e7 : M' 247 = M 247) : SQ M' M' B := ⟨fun _ _ _ => rfl, by rw [e6]; exact h.2.1, fun i x hi => by rw [e7]; exact h.2.2 i x hi⟩
theorem explode_lp1 {N : Nat} {M0 : jM} {d r id : Int} {B : List Int} {C : List eE} {kx : jM → Prop} (hN : 250 ≤ N) (hr : r ≤ 100) (hid : M0 r 0 = id) (hB : B.length ≤ 20) (hC : C.length ≤ 200) (H : ∀ M' E, (∀ c : Int, (c < 246 ∨ 251 < c) → M' c = M0 c) → XE M' d E → E.Pairwise (aheadP d) → E.Perm C → kx M') :
    ∀ (m n p : Nat) (M : jM) (E : List eE), m < n → p + m = B.length → (∀ c : Int, (c < 246 ∨ 251 < c) → M c = M0 c) → SQ M M B → XE M d E → E.Pairwise (aheadP d) → (E ++ entF id p (B.drop p)).Perm C → (∀ y ∈ E, y.2.1 < id ∨ (y.2.1 = id ∧ y.2.2 < p)) → lp_X6_explode_49 N 0 r kx n p M := by
  intro m
  induction m with
  | zero =>
    intro n p M E hn hp f hS hE hs hperm hy
    obtain ⟨n, rfl⟩ : ∃ m, n = m + 1 := ⟨n - 1, by omega⟩
    rw [lp_X6_explode_49]
    simp only [Int.reduceAdd]
    rw [hS.2.1, if_neg (by omega)]
    rw [List.drop_of_length_le (by omega)] at hperm
    simp only [entF, List.append_nil] at hperm
    exact H M E f hE hs hperm
  | succ m ih =>
    intro n p M E hn hp f hS hE hs hperm hy
    obtain ⟨n, rfl⟩ : ∃ m, n = m + 1 := ⟨n - 1, by omega⟩
    have hi : B[p]? = some (B.getD p 0) := by
      rw [List.getD_eq_getElem?_getD, List.getElem?_eq_getElem (by omega)]
      rfl
    rw [drop_at hi] at hperm
    have hlen := hperm.length_eq
    simp only [entF, List.length_append, List.length_cons] at hlen
    rw [lp_X6_explode_49]
    simp only [Int.reduceAdd]
    rw [hS.2.1, if_pos (by omega)]
    refine sqAt_eq hS hB (by omega) (by omega) ?_
    rw [Int.toNat_natCast, f r (by omega), hid]
    refine exAdd_k (e := (B.getD p 0, id, (p : Int))) hN hE (by omega) (fun q M' hq h1 h2 f' hE' => ?_)
    simp (disch := omega) only [jL, jW_id]
    refine ih n (p + 1) M' _ (by omega) (by omega) (fun c hc => by rw [f' c (by omega)]; exact f c hc) (hS.self (f' _ (by omega)) (f' _ (by omega))) hE' (exI_sorted hs hy h1 h2 hq) ?_ (fun y hyy => ?_)
    · refine List.Perm.trans ?_ hperm
      refine (List.Perm.append_right _ exI_perm).trans ?_
      rw [show (((p + 1 : Nat) : Int)) = (p : Int) + 1 by omega]
      exact List.perm_middle.symm
    · rcases List.mem_cons.mp (exI_perm.mem_iff.mp hyy) with z | z
      · rw [z]
        exact Or.inr ⟨rfl, by show (p : Int) < ((p + 1 : Nat) : Int); omega⟩
      · have := hy y z
        omega
theorem flat_len {s : aS} {c : Int} {I : List Int} (h : ∀ id ∈ I, (colS s id c).length ≤ 20) : (I.flatMap (fun id => entF id 0 (colS s id c))).length ≤ 20 * I.length := by
  induction I with
  | nil => simp
  | cons x I ih =>
    have h1 := ih (fun y hy => h y (by simp [hy]))
    have h2 := h x (by simp)
    rw [List.flatMap_cons, List.length_append, entF_len, List.length_cons]
    omega
theorem explode_lp2 {N : Nat} {M0 : jM} {d c : Int} {s : aS} {kx : jM → Prop} (hN : 250 ≤ N) (hS0 : XS M0 1 s) (hc : sCol c) (H : ∀ M' E, (∀ c : Int, (c < 246 ∨ 251 < c) → M' c = M0 c) → XE M' d E → E.Pairwise (aheadP d) → E.Perm (allE s c) → kx M') :
    ∀ (m n p : Nat) (M : jM) (E : List eE), m < n → p + m = (sI s).length → (∀ c : Int, (c < 246 ∨ 251 < c) → M c = M0 c) → XE M d E → E.Pairwise (aheadP d) → (E ++ ((sI s).drop p).flatMap (fun id => entF id 0 (colS s id c))).Perm (allE s c) → (∀ y ∈ E, ∀ (j : Nat) (id : Int), p ≤ j → (sI s)[j]? = some id → y.2.1 < id) → lp_X6_explode_10 N 0 c kx n p M := by
  have hcnt := hS0.cnt
  have hsor : (sI s).Pairwise (· < ·) := hS0.1.2.1
  have h200 : (allE s c).length ≤ 200 := by
    have := flat_len (s := s) (c := c) (I := sI s) (fun id hid => by
      obtain ⟨i, hi⟩ := List.getElem?_of_mem hid
      exact ((hS0.rec hi).cok hS0.1 hc).1)
    unfold allE
    omega
  intro m
  induction m with
  | zero =>
    intro n p M E hn hp f hE hs hperm hy
    obtain ⟨n, rfl⟩ : ∃ m, n = m + 1 := ⟨n - 1, by omega⟩
    rw [lp_X6_explode_10]
    simp only [Int.reduceAdd]
    rw [f 1 (by omega), hcnt.1, if_neg (by omega)]
    rw [List.drop_of_length_le (by omega)] at hperm
    simp only [List.flatMap_nil, List.append_nil] at hperm
    exact H M E f hE hs hperm
  | succ m ih =>
    intro n p M E hn hp f hE hs hperm hy
    obtain ⟨n, rfl⟩ : ∃ m, n = m + 1 := ⟨n - 1, by omega⟩
    obtain ⟨id, hi⟩ : ∃ id, (sI s)[p]? = some id := ⟨_, List.getElem?_eq_getElem (by omega)⟩
    have hS : XS M 1 s := hS0.congr (fun c h0 h1 => f c (by omega))
    obtain ⟨r, r0, r1, r2, hR⟩ := hS.at hi
    have hb := hR.cok hS.1 hc
    rw [drop_at hi, List.flatMap_cons] at hperm
    have hlen := hperm.length_eq
    simp only [List.length_append] at hlen
    rw [lp_X6_explode_10]
    simp only [Int.reduceAdd]
    rw [f 1 (by omega), hcnt.1, if_pos (by omega), r0]
    refine ⟨by omega, ?_⟩
    conv => rw [jL]
    refine gather_k (by omega) hS (by omega) hR hc (fun M1 h1 => ?_)
    refine explode_lp1 (M0 := M1) (d := d) (id := id) (B := colS s id c) (C := E ++ entF id 0 (colS s id c)) hN (by omega) (by rw [h1.1 r (by omega) (by omega)]; exact hR.1) hb.1 (by simp; omega) (fun M2 E2 f2 hE2 hs2 hp2 => ?_) (colS s id c).length N 0 M1 E (by omega) (by omega) (fun _ _ => rfl) (h1.self rfl rfl) ?_ hs ?_ (fun y hyy => Or.inl (hy y hyy p id (by omega) hi))
    · simp (disch := omega) only [jL, jW_id]
      refine ih n (p + 1) M2 E2 (by omega) (by omega) (fun c hc => by rw [f2 c hc, h1.1 c (by omega) (by omega)]; exact f c hc) hE2 hs2 ?_ (fun y hyy j id' hj hid' => ?_)
      · refine List.Perm.trans ?_ hperm
        refine (List.Perm.append_right _ hp2).trans ?_
        rw [List.append_assoc]
      · have hlt : id < id' := by
          obtain ⟨g1, g2⟩ := List.getElem?_eq_some_iff.mp hi
          obtain ⟨g3, g4⟩ := List.getElem?_eq_some_iff.mp hid'
          have := List.pairwise_iff_getElem.mp hsor p j g1 g3 (by omega)
          omega
        rcases List.mem_append.mp (hp2.mem_iff.mp hyy) with z | z
        · exact hy y z j id' (by omega) hid'
        · rw [entF_id y z]
          exact hlt
    · exact ⟨by rw [h1.1 248 (by omega) (by omega)]; exact hE.1, by rw [h1.1 248 (by omega) (by omega)]; exact hE.2.1, fun i e hi => by rw [h1.1 249 (by omega) (by omega), h1.1 250 (by omega) (by omega), h1.1 251 (by omega) (by omega)]; exact hE.2.2 i e hi⟩
    · exact List.Perm.refl _
theorem explode_k {N : Nat} {M : jM} {d c : Int} {s : aS} {k : jM → Prop} (hN : 250 ≤ N) (hS : XS M 1 s) (hc : sCol c) (H : ∀ M' E, (∀ c : Int, (c < 246 ∨ 251 < c) → M' c = M c) → XE M' d E → E.Pairwise (aheadP d) → E.Perm (allE s c) → E.length ≤ 200 → k M') : w_X6_explode N M 0 c d k := by
  have hcnt := hS.cnt
  have h200 : (allE s c).length ≤ 200 := by
    have := flat_len (s := s) (c := c) (I := sI s) (fun id hid => by
      obtain ⟨i, hi⟩ := List.getElem?_of_mem hid
      exact ((hS.rec hi).cok hS.1 hc).1)
    unfold allE
    omega
  unfold w_X6_explode w_X0_begin
  simp only [jL, Int.reduceAdd]
  refine explode_lp2 (M0 := M) (d := d) (s := s) hN hS hc (fun M' E f h1 h2 h3 => H M' E f h1 h2 h3 (by rw [h3.length_eq]; exact h200)) (sI s).length N 0 _ [] (by omega) (by omega) (fun c hc => by rw [jU_row (by omega), jU_row (by omega)]) ⟨by simp [jU], by simp [jU], fun i e hi => by simp at hi⟩ List.Pairwise.nil (List.Perm.refl _) (fun y hy => by simp at hy)
theorem xs_explodedAt {N : Nat} {M : jM} {a : aA} {c d i p : Int} {k : Int → jM → Prop} (hN : 250 ≤ N) (hX : XR M a) (H : ∀ M', frX M M' → XR M' a → k (a_explodedAt a c d i p) M') : w_X6_explodedAt N M 0 c d i p k := by
  unfold w_X6_explodedAt
  simp only [isBelow_eq, b01, ite_not, Int.reduceAdd]
  unfold a_explodedAt at H
  by_cases h1 : sCol c
  · rw [if_pos h1]
    rw [if_neg (not_not_intro h1)] at H
    by_cases h2 : i < 0
    · rw [if_pos h2]
      rw [if_pos (Or.inl h2)] at H
      exact H M fr0 hX
    · rw [if_neg h2]
      by_cases h3 : p < 0
      · rw [if_pos h3]
        rw [if_pos (by omega)] at H
        exact H M fr0 hX
      · rw [if_neg h3]
        by_cases h4 : p ≤ 2
        · rw [if_pos h4]
          rw [if_neg (by omega)] at H
          refine explode_k (d := d) hN hX.now h1 (fun M' E f hE hs hp hl => ?_)
          have HH := H M' (fun y hy => f y (by omega)) (hX.wk (fun y hy => f y (by omega)))
          rw [hE.1]
          by_cases h5 : i < E.length
          · rw [if_pos h5]
            obtain ⟨e, he⟩ : ∃ e, E[i.toNat]? = some e := ⟨_, List.getElem?_eq_getElem (by omega)⟩
            have hc := hE.2.2 _ e he
            have ee := exAt_at (p := p) hs hp he
            rw [Int.toNat_of_nonneg (by omega)] at hc ee
            rw [ee] at HH
            rw [hc.1, hc.2.1, hc.2.2]
            by_cases p0 : p = 0
            · rw [if_pos p0] at HH ⊢
              exact ⟨by omega, HH⟩
            · rw [if_neg p0] at HH ⊢
              by_cases p1 : p = 1
              · rw [if_pos p1] at HH ⊢
                exact ⟨by omega, HH⟩
              · rw [if_neg p1] at HH ⊢
                exact ⟨by omega, HH⟩
          · rw [if_neg h5]
            rw [exAt_none hs hp (by omega)] at HH
            exact HH
        · rw [if_neg h4]
          rw [if_pos (by omega)] at H
          exact H M fr0 hX
  · rw [if_neg h1]
    rw [if_pos h1] at H
    exact H M fr0 hX
theorem jL_if {c : Prop} [Decidable c] {f : Int → Prop} (h1 : c → f 1) (h0 : ¬ c → f 0) : jL f (fun j => if c then j 1 else j 0) := by
  show (if c then f 1 else f 0)
  by_cases z : c
  · rw [if_pos z]; exact h1 z
  · rw [if_neg z]; exact h0 z
theorem rep_step {M : jM} {kx : Int → Prop} {n R C p l : Nat} (hM : M 248 3 = (l : Int)) (hp : p + 1 < l) (hl : l ≤ 200) (hR : R ≤ 300) (hC : C ≤ 300) (h1 : M 249 ((p + 1 : Nat) : Int) = M 249 p → C = 1 → lp_X6_repeated_25 0 M kx n ((1 + R : Nat) : Int) ((C + 1 : Nat) : Int) ((p + 1 + 1 : Nat) : Int)) (h2 : M 249 ((p + 1 : Nat) : Int) = M 249 p → C ≠ 1 → lp_X6_repeated_25 0 M kx n (R : Int) ((C + 1 : Nat) : Int) ((p + 1 + 1 : Nat) : Int)) (h3 : M 249 ((p + 1 : Nat) : Int) ≠ M 249 p → lp_X6_repeated_25 0 M kx n (R : Int) 1 ((p + 1 + 1 : Nat) : Int)) : lp_X6_repeated_25 0 M kx (n + 1) (R : Int) (C : Int) ((p + 1 : Nat) : Int) := by
  have ew : jW (((p + 1 : Nat) : Int) - 1) = (p : Int) := by rw [jW_id (by omega)]; omega
  have ea : jW ((C : Int) + 1) = ((C + 1 : Nat) : Int) := by rw [jW_id (by omega)]; omega
  have eb : jW ((R : Int) + 1) = ((1 + R : Nat) : Int) := by rw [jW_id (by omega)]; omega
  have ec : jW (((p + 1 : Nat) : Int) + 1) = ((p + 1 + 1 : Nat) : Int) := by rw [jW_id (by omega)]; omega
  rw [lp_X6_repeated_25]
  simp only [Int.reduceAdd]
  rw [hM, if_pos (by omega)]
  rw [ew, ea, eb, ec]
  refine ⟨by omega, by omega, ?_⟩
  refine jL_if (fun z => ?_) (fun z => ?_)
  · rw [if_neg (by omega)]
    simp only [jL]
    by_cases z1 : C = 1
    · rw [if_pos (by omega)]
      exact h1 z z1
    · rw [if_neg (by omega)]
      exact h2 z z1
  · rw [if_pos (by omega), if_neg (by omega)]
    simp only [jL]
    exact h3 z
theorem repeated_lp {M : jM} {X : List Int} {kx : Int → Prop} (hM : M 248 3 = X.length) (hc : ∀ (i : Nat) (x : Int), X[i]? = some x → M 249 i = x) (hs : X.Pairwise (· ≤ ·)) (hl : X.length ≤ 200) (H : kx (repN X : Nat)) :
    ∀ (d n p : Nat) (y : Int), d < n → p + 1 + d = X.length → X[p]? = some y → repN (X.take (p + 1)).reverse ≤ p + 1 → lp_X6_repeated_25 0 M kx n (repN (X.take (p + 1)).reverse : Nat) ((X.take (p + 1)).count y : Nat) ((p + 1 : Nat) : Int) := by
  intro d
  induction d with
  | zero =>
    intro n p y hn hp hy hb
    obtain ⟨n, rfl⟩ : ∃ m, n = m + 1 := ⟨n - 1, by omega⟩
    rw [lp_X6_repeated_25]
    simp only [Int.reduceAdd]
    rw [hM, if_neg (by omega), List.take_of_length_le (by omega), repN_perm X.reverse_perm]
    exact H
  | succ d ih =>
    intro n p y hn hp hy hb
    obtain ⟨n, rfl⟩ : ∃ m, n = m + 1 := ⟨n - 1, by omega⟩
    obtain ⟨x, hx⟩ : ∃ x, X[p + 1]? = some x := ⟨_, List.getElem?_eq_getElem (by omega)⟩
    have et : X.take (p + 1 + 1) = X.take (p + 1) ++ [x] := by rw [List.take_succ, hx]; rfl
    have er : (X.take (p + 1 + 1)).reverse = x :: (X.take (p + 1)).reverse := by rw [et, List.reverse_append]; rfl
    have erep : repN (X.take (p + 1 + 1)).reverse = (if (X.take (p + 1)).count x = 1 then 1 else 0) + repN (X.take (p + 1)).reverse := by rw [er, repN, List.count_reverse]
    have ecnt : (X.take (p + 1 + 1)).count x = (X.take (p + 1)).count x + 1 := by rw [et, List.count_append]; simp
    have hcl : (X.take (p + 1)).count y ≤ p + 1 := Nat.le_trans List.count_le_length (by rw [List.length_take]; omega)
    have hnext := ih n (p + 1) x (by omega) (by omega) hx (by rw [erep]; split <;> omega)
    rw [erep, ecnt] at hnext
    refine rep_step hM (by omega) hl (by omega) (by omega) (fun z z1 => ?_) (fun z z1 => ?_) (fun z => ?_)
    · rw [hc _ x hx, hc _ y hy] at z
      rw [← z] at z1 ⊢
      rw [if_pos z1] at hnext
      exact hnext
    · rw [hc _ x hx, hc _ y hy] at z
      rw [← z] at z1 ⊢
      rw [if_neg z1, Nat.zero_add] at hnext
      exact hnext
    · rw [hc _ x hx, hc _ y hy] at z
      have hnot : (X.take (p + 1)).count x = 0 := by
        rw [List.count_eq_zero]
        intro hm
        obtain ⟨j, hj⟩ := List.getElem?_of_mem hm
        have hjl : j < p + 1 := by
          have := (List.getElem?_eq_some_iff.mp hj).1
          rw [List.length_take] at this
          omega
        rw [List.getElem?_take_of_lt hjl] at hj
        obtain ⟨g1, g2⟩ := List.getElem?_eq_some_iff.mp hj
        obtain ⟨g3, g4⟩ := List.getElem?_eq_some_iff.mp hx
        obtain ⟨g5, g6⟩ := List.getElem?_eq_some_iff.mp hy
        have q1 := List.pairwise_iff_getElem.mp hs p (p + 1) g5 g3 (by omega)
        by_cases q : j = p
        · subst q
          rw [hj] at hy
          exact z (Option.some.inj hy)
        · have q2 := List.pairwise_iff_getElem.mp hs j p g1 g5 (by omega)
          omega
      rw [hnot, if_neg (by omega), Nat.zero_add, Nat.zero_add] at hnext
      exact hnext
theorem xs_repeated {N : Nat} {M : jM} {a : aA} {c : Int} {k : Int → jM → Prop} (hN : 250 ≤ N) (hX : XR M a) (H : ∀ M', frX M M' → XR M' a → k (a_repeated a c) M') : w_X6_repeated N M 0 c k := by
  unfold w_X6_repeated
  simp only [isBelow_eq, b01, ite_not, Int.reduceAdd]
  unfold a_repeated at H
  by_cases h1 : sCol c
  · rw [if_pos h1]
    rw [if_neg (not_not_intro h1)] at H
    refine explode_k (d := 0) hN hX.now h1 (fun M' E f hE hs hp hl => ?_)
    have HH := H M' (fun y hy => f y (by omega)) (hX.wk (fun y hy => f y (by omega)))
    have eX : repN (allX (aNow a) c) = repN (E.map (fun e => e.1)) := by
      rw [← allE_fst]
      exact repN_perm (hp.symm.map _)
    rw [eX] at HH
    have hss : (E.map (fun e => e.1)).Pairwise (· ≤ ·) := by
      rw [List.pairwise_map]
      refine hs.imp (fun {x y} h => ?_)
      unfold aheadP at h
      rw [if_pos rfl] at h
      omega
    have hcc : ∀ (i : Nat) (x : Int), (E.map (fun e => e.1))[i]? = some x → M' 249 i = x := by
      intro i x hi
      rw [List.getElem?_map] at hi
      cases he : E[i]? with
      | none => rw [he] at hi; simp at hi
      | some e =>
        rw [he] at hi
        have : e.1 = x := by simpa using hi
        rw [← this]
        exact (hE.2.2 i e he).1
    by_cases z : E = []
    · obtain ⟨n, rfl⟩ : ∃ m, N = m + 1 := ⟨N - 1, by omega⟩
      rw [lp_X6_repeated_25]
      simp only [Int.reduceAdd]
      rw [hE.1, z, if_neg (by simp)]
      rw [z] at HH
      exact HH
    · have hpos := List.length_pos_iff.mpr z
      have hml : (E.map (fun e => e.1)).length = E.length := List.length_map _
      obtain ⟨y, hy⟩ : ∃ y, (E.map (fun e => e.1))[0]? = some y := ⟨_, List.getElem?_eq_getElem (by omega)⟩
      have et : (E.map (fun e => e.1)).take (0 + 1) = [y] := by rw [List.take_succ, hy]; rfl
      have := repeated_lp (M := M') (X := E.map (fun e => e.1)) (kx := fun (x6 : Int) => (k x6 M')) (by rw [hml]; exact hE.1) hcc hss (by omega) HH (E.length - 1) N 0 y (by omega) (by omega) hy (by rw [et]; simp [repN])
      rw [et] at this
      have e1 : ((repN [y].reverse : Nat) : Int) = 0 := by simp [repN]
      have e2 : (([y].count y : Nat) : Int) = 1 := by simp
      rw [e1, e2] at this
      exact this
  · rw [if_neg h1]
    rw [if_pos h1] at H
    exact H M fr0 hX
