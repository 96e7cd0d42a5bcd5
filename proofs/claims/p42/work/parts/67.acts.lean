/-! acts: each action answers as its bounds say; it changes nothing, or what was before is remembered -/
theorem countP_mono {α : Type} {P Q : α → Bool} {l : List α} (h : ∀ x ∈ l, P x = true → Q x = true) : l.countP P ≤ l.countP Q := List.countP_mono_left h
theorem countP_or {α : Type} {P Q : α → Bool} (l : List α) : l.countP (fun x => P x || Q x) ≤ l.countP P + l.countP Q := by
  induction l with
  | nil => simp
  | cons x l ih =>
    simp only [List.countP_cons]
    cases P x <;> cases Q x <;> simp <;> omega
theorem countP_one {x : Int} (n : Nat) : (List.range n).countP (fun i : Nat => decide ((i : Int) = x)) ≤ 1 := by
  induction n with
  | zero => simp
  | succ n ih =>
    rw [range_countP]
    by_cases c : (n : Int) = x
    · have e : (List.range n).countP (fun i : Nat => decide ((i : Int) = x)) = 0 := by
        rw [List.countP_eq_zero]
        intro i hi
        have := List.mem_range.mp hi
        simp
        omega
      rw [e]
      split <;> omega
    · rw [if_neg (by simpa using c)]
      omega
theorem countP_mem (I : List Int) (n : Nat) : (List.range n).countP (fun i : Nat => decide ((i : Int) ∈ I)) ≤ I.length := by
  induction I with
  | nil => simp
  | cons x I ih =>
    have e : (fun i : Nat => decide ((i : Int) ∈ x :: I)) = (fun i : Nat => decide ((i : Int) = x) || decide ((i : Int) ∈ I)) := by
      funext i
      simp
    rw [e]
    have := countP_or (P := fun i : Nat => decide ((i : Int) = x)) (Q := fun i : Nat => decide ((i : Int) ∈ I)) (List.range n)
    have := countP_one (x := x) n
    simp only [List.length_cons]
    omega
theorem nList_setL {s : aS} {l : Int} {g : Int → Bool} : nList (setL s l g) l = ((List.range 100).countP (fun i : Nat => g i) : Nat) := by
  unfold nList setL sL
  simp [uI]
theorem select_le {s : aS} {c t x e l : Int} : nList (selS s c t x e l) l ≤ (sI s).length := by
  unfold selS
  rw [nList_setL]
  have h1 : (List.range 100).countP (fun i : Nat => decide ((i : Int) ∈ sI s) && selB (colS s i c) t x e) ≤ (List.range 100).countP (fun i : Nat => decide ((i : Int) ∈ sI s)) := countP_mono (fun i _ h => by simp at h; simp [h.1])
  have h2 := countP_mem (sI s) 100
  omega
theorem listSize_in {a : aA} {l : Int} (hl : sLst l) : a_listSize a l = nList (aNow a) l := by rw [a_listSize, if_neg (not_not_intro hl)]
theorem lines_in {a : aA} {id : Int} (h : id ∈ sI (aNow a)) : a_lines a id = nLines (aNow a) id := by rw [a_lines, if_neg (not_not_intro h)]
theorem nLock_lt {s : aS} {id u : Int} (h : id ∈ sI s) (hu : u ≠ -1000007) : 0 ≤ nLock (setK s id (-1000007)) u ∧ nLock (setK s id (-1000007)) u < (sI s).length := by
  unfold nLock
  have e : sI (setK s id (-1000007)) = sI s := rfl
  rw [e]
  refine ⟨by omega, ?_⟩
  have h1 : (sI s).countP (fun j => decide (sK (setK s id (-1000007)) j = u)) < (sI s).length := by
    refine Nat.lt_of_le_of_ne List.countP_le_length (fun q => ?_)
    have := (List.countP_eq_length.mp q) id h
    have e2 : sK (setK s id (-1000007)) id = -1000007 := uI_self _ _ _
    rw [e2] at this
    simp at this
    exact hu this.symm
  omega
theorem nLock_pos {s : aS} {id u : Int} (h : id ∈ sI s) : 1 ≤ nLock (setK s id u) u := by
  unfold nLock
  have h1 : 0 < (sI (setK s id u)).countP (fun j => decide (sK (setK s id u) j = u)) := by
    rw [List.countP_pos_iff]
    refine ⟨id, h, ?_⟩
    have e2 : sK (setK s id u) id = u := uI_self _ _ _
    rw [e2]
    simp
  omega
theorem sAdd_in {s : aS} {id : Int} : id ∈ sI (sAdd s id) := by
  show id ∈ (sI s).insertIdx _ id
  exact (List.mem_insertIdx List.findIdx_le_length).mpr (Or.inl rfl)
theorem nLines_add {s : aS} {id : Int} : nLines (sAdd s id) id = 0 := by
  have e : ∀ f, lineL (sAdd s id) id f = 0 := by
    intro f
    unfold lineL
    have : sF (sAdd s id) id = fun _ => [] := uI_self _ _ _
    rw [this]
    split <;> rfl
  unfold nLines
  rw [e, e, e, e]
  rfl
theorem nLine_le {s : aS} {id p : Int} : 0 ≤ nLine s id p ∧ nLine s id p ≤ 4 := by
  unfold nLine
  split <;> split <;> split <;> split <;> omega
theorem nLines_ok {s : aS} (h : aOK s) {id : Int} (hid : id ∈ sI s) : 0 ≤ nLines s id ∧ nLines s id ≤ 5 := by
  have e : ∀ f : Int, sFld f → 0 ≤ lineL s id f ∧ lineL s id f ≤ 5 := by
    intro f hf
    have := fL_ok ((h.2 id hid).2.2 f hf)
    unfold lineL
    split <;> omega
  have := e 0 (by decide)
  have := e 1 (by decide)
  have := e 2 (by decide)
  have := e 3 (by decide)
  unfold nLines
  omega
/-- the state without the line p of a record -/
abbrev noLine (s : aS) (id p : Int) : aS := setFs s id (fun f => if 0 ≤ f ∧ f < 4 ∧ sHas s id p f then fDelV (sF s id f) p else sF s id f)
theorem lineL_no {s : aS} {id p f : Int} (hf : sFld f) : lineL (noLine s id p) id f = if sHas s id p f then lineL s id f - 1 else lineL s id f := by
  have e : sF (noLine s id p) id f = if 0 ≤ f ∧ f < 4 ∧ sHas s id p f then fDelV (sF s id f) p else sF s id f := by
    show uI (sF s) id _ id f = _
    rw [uI_self]
  have eA : sA (noLine s id p) = sA s := rfl
  unfold lineL
  rw [eA, e]
  by_cases c : sHas s id p f
  · rw [if_pos c, if_pos (⟨hf.1, hf.2, c⟩ : 0 ≤ f ∧ f < 4 ∧ sHas s id p f), if_pos c.1, if_pos c.1, len_delV c.2.1 c.2.2]
  · rw [if_neg c, if_neg (fun z => c z.2.2 : ¬ (0 ≤ f ∧ f < 4 ∧ sHas s id p f))]
theorem nLines_no {s : aS} (h : aOK s) {id p : Int} (hid : id ∈ sI s) (hp : 0 ≤ p ∧ p < nLines s id) : nLines (noLine s id p) id = nLines s id - 1 := by
  have e : ∀ f : Int, sFld f → (sHas s id p f ↔ 0 ≤ p ∧ p < lineL s id f) := by
    intro f hf
    unfold lineL
    constructor
    · intro z; rw [if_pos z.1]; exact z.2
    · intro z
      split at z
      · next c => exact ⟨c, z⟩
      · omega
  have g : ∀ f : Int, sFld f → lineL (noLine s id p) id f = if p < lineL s id f then lineL s id f - 1 else lineL s id f := by
    intro f hf
    rw [lineL_no hf]
    by_cases c : p < lineL s id f
    · rw [if_pos c, if_pos ((e f hf).mpr ⟨hp.1, c⟩)]
    · rw [if_neg c, if_neg (fun z => c ((e f hf).mp z).2)]
  obtain ⟨p0, p1⟩ := hp
  unfold nLines at p1 ⊢
  rw [g 0 (by decide), g 1 (by decide), g 2 (by decide), g 3 (by decide)]
  split <;> split <;> split <;> split <;> omega
set_option maxHeartbeats 4000000 in
theorem acts_k {N : Nat} {M : jM} {a : aA} {k : Int → jM → Prop} {x y : Int} (hN : 300 ≤ N) (hX : XR M a) (K : ∀ (M' : jM) (a' : aA), XR M' a' → aStep a a' → k 1 M') : w_L_acts N M 0 x y k := by
  have hs := hX.aok
  have h10 := hs.1.1
  unfold w_L_acts
  refine low_k (by omega) (by omega) (fun x1 _ _ => ?_)
  refine v_records hN hX (fun x2 h2 => ?_)
  rw [jW_id (by omega : jR (x2 + 1))]
  refine low_k (by omega) (by omega) (fun x3 _ _ => ?_)
  refine jL_s (fun _ => True) (fun j hj => ?_) (fun id _ => ?_)
  · by_cases c : x3 < x2
    · rw [if_pos c]
      exact v_recordAt hN hX (fun w _ => hj _ trivial)
    · rw [if_neg c]
      exact low_k (by omega) (by omega) (fun w _ _ => hj _ trivial)
  refine jL_s (fun x6 => (x6 = 1 ∧ id ∈ sI (aNow a)) ∨ (x6 = 0 ∧ id ∉ sI (aNow a))) (fun j hj => ?_) (fun x6 h6 => ?_)
  · by_cases c : id < 0
    · rw [if_pos c]; exact hj _ (Or.inr ⟨rfl, fun z => by have := (hs.2 id z).1; omega⟩)
    · rw [if_neg c]
      refine v_locker hN hX (fun w hw => ?_)
      by_cases c2 : id ∈ sI (aNow a)
      · rw [locker_in c2] at hw
        have := (hs.2 id c2).2.1
        rw [if_neg (by omega)]; exact hj _ (Or.inl ⟨rfl, c2⟩)
      · rw [locker_out c2] at hw
        rw [if_pos hw]; exact hj _ (Or.inr ⟨rfl, c2⟩)
  refine low_k (by omega) (by omega) (fun x8 _ _ => ?_)
  refine jL_s (fun x9 => x9 = 2 ∨ x9 = 5) (fun j hj => ?_) (fun x9 h9 => ?_)
  · by_cases c : x8 = 0
    · rw [if_pos c]; exact hj _ (Or.inr rfl)
    · rw [if_neg c]; exact hj _ (Or.inl rfl)
  refine low_k (by omega) (by omega) (fun u u0 u1 => ?_)
  refine jL_v (fun x12 _ => ?_)
  refine jL_s (fun M14 => M14 = M) (fun j hj => ?_) (fun M14 h14 => ?_)
  · by_cases c1 : x1 < 3
    · rw [if_pos c1]; exact hj _ rfl
    rw [if_neg c1]
    by_cases c2 : x2 < 2
    · rw [if_pos c2]; exact hj _ rfl
    rw [if_neg c2]
    clear hj
    have hok : u ≤ 3 → x6 = 1 → ¬ (¬ sUsr u ∨ id ∉ sI (aNow a)) := by
      intro q1 q2 z
      rcases h6 with ⟨-, d⟩ | ⟨c, -⟩
      · rcases z with z | z
        · exact z ⟨u0, by omega⟩
        · exact z d
      · omega
    have hin : x6 = 1 → id ∈ sI (aNow a) := by
      intro q
      rcases h6 with ⟨-, d⟩ | ⟨c, -⟩
      · exact d
      · omega
    have hno : ¬ (u ≤ 3 ∧ x6 = 1) → (¬ sUsr u ∨ id ∉ sI (aNow a)) := by
      intro q
      rcases h6 with ⟨c, d⟩ | ⟨c, d⟩
      · exact Or.inl (fun z => q ⟨by omega, c⟩)
      · exact Or.inr d
    have h60 : x6 = 0 ∨ x6 = 1 := by omega
    refine jL_s (fun x28 => (x28 = 0 ∧ (x6 = 1 → sOpen (aNow a) u id)) ∨ (x28 = 1 ∧ x6 = 1 ∧ ¬ sOpen (aNow a) u id)) (fun j hj => ?_) (fun x28 h28 => ?_)
    · rcases h6 with ⟨c6, d1⟩ | ⟨c6, d1⟩
      · rw [if_neg (by omega)]
        refine v_locker hN hX (fun q hq => ?_)
        rw [locker_in d1] at hq
        by_cases c : q = -1000007
        · rw [if_pos c]; exact hj _ (Or.inl ⟨rfl, fun _ => Or.inl (by omega)⟩)
        · rw [if_neg c]
          refine v_locker hN hX (fun q2 hq2 => ?_)
          rw [locker_in d1] at hq2
          by_cases c2 : q2 = u
          · rw [if_pos c2]; exact hj _ (Or.inl ⟨rfl, fun _ => Or.inr (by omega)⟩)
          · rw [if_neg c2]; exact hj _ (Or.inr ⟨rfl, c6, fun z => z.elim (fun z => by omega) (fun z => by omega)⟩)
      · rw [if_pos c6]; exact hj _ (Or.inl ⟨rfl, fun z => by omega⟩)
    have hopen : x28 = 0 → x6 = 1 → sOpen (aNow a) u id := by
      intro q1 q2
      rcases h28 with ⟨-, z⟩ | ⟨z, -⟩
      · exact z q2
      · omega
    have hbars : ¬ x28 = 0 → ¬ sOpen (aNow a) u id := by
      intro q1
      rcases h28 with ⟨z, -⟩ | ⟨-, -, z⟩
      · exact absurd z q1
      · exact z
    by_cases c16 : x1 < 16
    · rw [if_pos c16]
      by_cases c10 : x1 < 10
      · rw [if_pos c10]; exact ed_k hN hX ⟨u0, by omega⟩ (Or.inl rfl) K
      rw [if_neg c10]
      by_cases c12 : x1 < 12
      · rw [if_pos c12]; exact ed_k hN hX ⟨u0, by omega⟩ (Or.inr (Or.inl rfl)) K
      rw [if_neg c12]; exact ed_k hN hX ⟨u0, by omega⟩ (Or.inr (Or.inr rfl)) K
    rw [if_neg c16]
    by_cases c19 : x1 < 19
    · rw [if_pos c19]; exact loads_k hN hX ⟨u0, by omega⟩ K
    rw [if_neg c19]
    by_cases e19 : x1 = 19
    · rw [if_pos e19]
      refine v_lock hN hX (fun t M1 ht hX1 => ?_)
      have hE : (¬ (u ≤ 3 ∧ x6 = 1) ∧ a_lock a u id = (-1000001, a)) ∨ ((u ≤ 3 ∧ x6 = 1) ∧ ¬ x28 = 0 ∧ a_lock a u id = (-1000006, a)) ∨ ((u ≤ 3 ∧ x6 = 1) ∧ x28 = 0 ∧ a_lock a u id = (nLock (setK (aNow a) id u) u, aDo a (setK (aNow a) id u))) := by
        unfold a_lock
        by_cases q : u ≤ 3 ∧ x6 = 1
        · rw [if_neg (hok q.1 q.2)]
          by_cases q2 : x28 = 0
          · rw [if_neg (not_not_intro (hopen q2 q.2))]; exact Or.inr (Or.inr ⟨q, q2, rfl⟩)
          · rw [if_pos (hbars q2)]; exact Or.inr (Or.inl ⟨q, q2, rfl⟩)
        · rw [if_pos (hno q)]; exact Or.inl ⟨q, rfl⟩
      rcases hE with ⟨q, hE⟩ | ⟨q, q2, hE⟩ | ⟨q, q2, hE⟩ <;> rw [hE] at ht hX1
      · have ht : t = -1000001 := ht
        refine jL_s (fun x40 => x40 = t) (fun j hj => ?_) (fun x40 h40 => ?_)
        · by_cases c : u ≤ 3
          · rw [if_pos c, if_pos (by omega)]; exact hj _ ht.symm
          · rw [if_neg c]; exact hj _ ht.symm
        rw [if_pos h40.symm, if_pos (by omega)]
        exact K _ _ hX1 aStep.same
      · have ht : t = -1000006 := ht
        refine jL_s (fun x40 => x40 = t) (fun j hj => ?_) (fun x40 h40 => ?_)
        · rw [if_pos q.1, if_neg (by omega), if_neg q2]; exact hj _ ht.symm
        rw [if_pos h40.symm, if_pos (by omega)]
        exact K _ _ hX1 aStep.same
      · have ht : t = nLock (setK (aNow a) id u) u := ht
        have hp := nLock_pos (s := aNow a) (u := u) (hin q.2)
        refine jL_s (fun x40 => x40 = t) (fun j hj => ?_) (fun x40 h40 => ?_)
        · rw [if_pos q.1, if_neg (by omega), if_pos q2]; exact hj _ rfl
        rw [if_pos h40.symm, if_neg (by omega), if_neg (by omega)]
        refine v_locker hN hX1 (fun w hw => ?_)
        have e1 : a_locker (aDo a (setK (aNow a) id u)) id = u := by
          rw [locker_in (show id ∈ sI (aNow (aDo a (setK (aNow a) id u))) from hin q.2)]
          exact uI_self _ _ _
        have hw : w = a_locker (aDo a (setK (aNow a) id u)) id := hw
        rw [if_pos (by omega)]
        exact K _ _ hX1 aStep.done
    rw [if_neg e19]
    by_cases e20 : x1 = 20
    · rw [if_pos e20]
      refine jL_s (fun x43 => x6 = 1 → ((x43 = 1 ∧ sK (aNow a) id = -1000007) ∨ (x43 = 0 ∧ ¬ sK (aNow a) id = -1000007))) (fun j hj => ?_) (fun x43 h43 => ?_)
      · rcases h6 with ⟨c6, d1⟩ | ⟨c6, d1⟩
        · rw [if_neg (by omega)]
          refine v_locker hN hX (fun q hq => ?_)
          rw [locker_in d1] at hq
          by_cases c : q = -1000007
          · rw [if_pos c]; exact hj _ (fun _ => Or.inl ⟨rfl, by omega⟩)
          · rw [if_neg c]; exact hj _ (fun _ => Or.inr ⟨rfl, by omega⟩)
        · rw [if_pos c6]; exact hj _ (fun z => by omega)
      refine v_unlock hN hX (fun t M1 ht hX1 => ?_)
      by_cases q : u ≤ 3 ∧ x6 = 1
      · have h43 := h43 q.2
        have hn6 : ¬ x6 = 0 := by omega
        rw [if_pos q.1, if_neg hn6]
        by_cases q2 : x28 = 0
        · rw [if_pos q2]
          by_cases q3 : x43 = 0
          · have hk : ¬ sK (aNow a) id = -1000007 := by omega
            have hE : a_unlock a u id = (nLock (setK (aNow a) id (-1000007)) u, aDo a (setK (aNow a) id (-1000007))) := by
              unfold a_unlock
              rw [if_neg (hok q.1 q.2), if_neg (not_not_intro (hopen q2 q.2)), if_neg hk]
            rw [hE] at ht hX1
            have ht : t = nLock (setK (aNow a) id (-1000007)) u := ht
            have hp := nLock_lt (s := aNow a) (u := u) (hin q.2) (by omega)
            rw [if_pos q3, if_neg (by omega), if_pos (by omega), if_neg hn6, if_pos q2, if_pos q.1]
            refine v_locker hN hX1 (fun w hw => ?_)
            have e1 : a_locker (aDo a (setK (aNow a) id (-1000007))) id = -1000007 := by
              rw [locker_in (show id ∈ sI (aNow (aDo a (setK (aNow a) id (-1000007)))) from hin q.2)]
              exact uI_self _ _ _
            have hw : w = a_locker (aDo a (setK (aNow a) id (-1000007))) id := hw
            rw [if_pos (by omega)]
            exact K _ _ hX1 aStep.done
          · have hk : sK (aNow a) id = -1000007 := by omega
            have hE : a_unlock a u id = (-1000005, a) := by
              unfold a_unlock
              rw [if_neg (hok q.1 q.2), if_neg (not_not_intro (hopen q2 q.2)), if_pos hk]
            rw [hE] at ht hX1
            rw [if_neg q3, if_pos ht, if_neg hn6, if_pos q2, if_pos q.1]
            refine v_locker hN hX1 (fun w hw => ?_)
            rw [locker_in (hin q.2)] at hw
            have hw : w = sK (aNow a) id := hw
            rw [if_pos (by omega)]
            exact K _ _ hX1 aStep.same
        · have hE : a_unlock a u id = (-1000006, a) := by
            unfold a_unlock
            rw [if_neg (hok q.1 q.2), if_pos (hbars q2)]
          rw [hE] at ht hX1
          rw [if_neg q2, if_pos ht, if_neg hn6, if_neg q2]
          exact K _ _ hX1 aStep.same
      · have hE : a_unlock a u id = (-1000001, a) := by
          unfold a_unlock
          rw [if_pos (hno q)]
        rw [hE] at ht hX1
        by_cases c : u ≤ 3
        · have c6 : x6 = 0 := by omega
          rw [if_pos c, if_pos c6, if_pos ht, if_pos c6]
          exact K _ _ hX1 aStep.same
        · rw [if_neg c, if_pos ht]
          by_cases c6 : x6 = 0
          · rw [if_pos c6]; exact K _ _ hX1 aStep.same
          · rw [if_neg c6]
            by_cases c28 : x28 = 0
            · rw [if_pos c28]
              first | (rw [if_neg c]; exact K _ _ hX1 aStep.same) | exact K _ _ hX1 aStep.same
            · rw [if_neg c28]; exact K _ _ hX1 aStep.same
    rw [if_neg e20]
    by_cases e21 : x1 = 21
    · rw [if_pos e21]
      refine low_k (by omega) (by omega) (fun x53 _ _ => ?_)
      by_cases c53 : x53 ≤ 0
      · rw [if_pos c53]
        refine v_delete hN hX (fun t M1 ht hX1 => ?_)
        by_cases q : u ≤ 3 ∧ x6 = 1
        · rw [if_pos q.1, if_neg (by omega)]
          by_cases q2 : x28 = 0
          · have hE : a_delete a u id = (((sI (aNow a)).length : Int) - 1, aDo a (sDel (aNow a) id)) := by
              unfold a_delete
              rw [if_neg (hok q.1 q.2), if_neg (not_not_intro (hopen q2 q.2))]
            rw [hE] at ht hX1
            have ht : t = ((sI (aNow a)).length : Int) - 1 := ht
            rw [if_pos q2, jW_id (by omega), if_pos (by omega)]
            exact K _ _ hX1 aStep.done
          · have hE : a_delete a u id = (-1000006, a) := by
              unfold a_delete
              rw [if_neg (hok q.1 q.2), if_pos (hbars q2)]
            rw [hE] at ht hX1
            rw [if_neg q2, if_pos ht]
            exact K _ _ hX1 aStep.same
        · have hE : a_delete a u id = (-1000001, a) := by
            unfold a_delete
            rw [if_pos (hno q)]
          rw [hE] at ht hX1
          by_cases c : u ≤ 3
          · rw [if_pos c, if_pos (by omega), if_pos ht]
            exact K _ _ hX1 aStep.same
          · rw [if_neg c, if_pos ht]
            exact K _ _ hX1 aStep.same
      · rw [if_neg c53]
        exact K _ _ hX aStep.same
    rw [if_neg e21]
    by_cases e22 : x1 = 22
    · rw [if_pos e22]
      refine low_k (by omega) (by omega) (fun x56 _ _ => ?_)
      refine jL_w (by omega) (fun p hp => ?_)
      refine jL_s (fun x58 => (x6 = 1 → x58 = nLines (aNow a) id) ∧ (x6 = 0 → x58 = 0)) (fun j hj => ?_) (fun x58 h58 => ?_)
      · rcases h6 with ⟨c6, d1⟩ | ⟨c6, d1⟩
        · rw [if_neg (by omega)]
          refine v_lines hN hX (fun q hq => ?_)
          rw [lines_in d1] at hq
          exact hj _ ⟨fun _ => hq, fun z => by omega⟩
        · rw [if_pos c6]; exact hj _ ⟨fun z => by omega, fun _ => rfl⟩
      refine v_removeLine hN hX (fun t M1 ht hX1 => ?_)
      have hAs : ∀ f : Int, sFld f → sA (aNow a) f = 0 ∨ sA (aNow a) f = 1 := fun f hf => sA_ok hs hf
      have hE : ((¬ (u ≤ 3 ∧ x6 = 1) ∨ p < 0 ∨ ¬ p < x58) ∧ a_removeLine a u id p = (-1000001, a)) ∨ ((u ≤ 3 ∧ x6 = 1) ∧ (0 ≤ p ∧ p < x58) ∧ ¬ x28 = 0 ∧ a_removeLine a u id p = (-1000006, a)) ∨ ((u ≤ 3 ∧ x6 = 1) ∧ (0 ≤ p ∧ p < x58) ∧ x28 = 0 ∧ a_removeLine a u id p = (nLine (aNow a) id p, aDo a (noLine (aNow a) id p))) := by
        unfold a_removeLine
        by_cases q : u ≤ 3 ∧ x6 = 1
        · rw [if_neg (hok q.1 q.2)]
          have h58 := h58.1 q.2
          have hl := nLine_lines (s := aNow a) (id := id) (p := p) hAs
          by_cases q3 : 0 ≤ p ∧ p < x58
          · rw [if_neg (hl.mp (by rw [← h58]; exact q3))]
            by_cases q2 : x28 = 0
            · rw [if_neg (not_not_intro (hopen q2 q.2))]; exact Or.inr (Or.inr ⟨q, q3, q2, rfl⟩)
            · rw [if_pos (hbars q2)]; exact Or.inr (Or.inl ⟨q, q3, q2, rfl⟩)
          · rw [if_pos (Decidable.byContradiction fun z => q3 (by rw [h58]; exact hl.mpr z))]; exact Or.inl ⟨Or.inr (by omega), rfl⟩
        · rw [if_pos (hno q)]; exact Or.inl ⟨Or.inl q, rfl⟩
      rcases hE with ⟨q, hE⟩ | ⟨q, q3, q2, hE⟩ | ⟨q, q3, q2, hE⟩ <;> rw [hE] at ht hX1
      · have ht : t = -1000001 := ht
        refine jL_s (fun x62 => x62 = t) (fun j hj => ?_) (fun x62 h62 => ?_)
        · by_cases c : u ≤ 3
          · rw [if_pos c]
            by_cases c6 : x6 = 0
            · rw [if_pos c6]; exact hj _ ht.symm
            · rw [if_neg c6]
              by_cases c7 : p < 0
              · rw [if_pos c7]; exact hj _ ht.symm
              · rw [if_neg c7, if_neg (by omega)]; exact hj _ ht.symm
          · rw [if_neg c]; exact hj _ ht.symm
        rw [if_pos h62.symm, if_pos (by omega)]
        exact K _ _ hX1 aStep.same
      · have ht : t = -1000006 := ht
        refine jL_s (fun x62 => x62 = t) (fun j hj => ?_) (fun x62 h62 => ?_)
        · rw [if_pos q.1, if_neg (by omega), if_neg (by omega), if_pos (by omega), if_neg q2]; exact hj _ ht.symm
        rw [if_pos h62.symm, if_pos (by omega)]
        exact K _ _ hX1 aStep.same
      · have ht : t = nLine (aNow a) id p := ht
        have h58 := h58.1 q.2
        have hl := (nLine_lines (s := aNow a) (id := id) (p := p) hAs).mp (by rw [← h58]; exact q3)
        have hl2 := nLine_le (s := aNow a) (id := id) (p := p)
        have hl3 := nLines_ok hs (hin q.2)
        refine jL_s (fun x62 => x62 = t) (fun j hj => ?_) (fun x62 h62 => ?_)
        · rw [if_pos q.1, if_neg (by omega), if_neg (by omega), if_pos (by omega), if_pos q2]; exact hj _ rfl
        rw [if_pos h62.symm, if_neg (by omega), if_neg (by omega), if_pos (by omega)]
        refine v_lines hN hX1 (fun w hw => ?_)
        have e1 : a_lines (aDo a (noLine (aNow a) id p)) id = nLines (noLine (aNow a) id p) id := lines_in (a := aDo a (noLine (aNow a) id p)) (hin q.2)
        have hw : w = a_lines (aDo a (noLine (aNow a) id p)) id := hw
        have e2 := nLines_no hs (hin q.2) (p := p) (by omega)
        rw [jW_id (by omega), if_pos (by omega)]
        exact K _ _ hX1 aStep.done
    rw [if_neg e22]
    by_cases e23 : x1 = 23
    · rw [if_pos e23]
      refine low_k (by omega) (by omega) (fun f f0 f1 => ?_)
      refine low_k (by omega) (by omega) (fun x67 _ _ => ?_)
      refine jL_s (fun v => v = 0 ∨ v = 1) (fun j hj => ?_) (fun v hv => ?_)
      · by_cases c : x67 = 0
        · rw [if_pos c]; exact hj _ (Or.inr rfl)
        · rw [if_neg c]; exact hj _ (Or.inl rfl)
      refine v_associate hN hX hv (fun t M1 ht hX1 => ?_)
      by_cases c4 : f = 4
      · have hE : a_associate a f v = (-1000001, a) := by
          unfold a_associate
          rw [if_pos (by omega)]
        rw [hE] at ht hX1
        rw [if_pos c4, if_pos ht]
        exact K _ _ hX1 aStep.same
      · have hf : sFld f := by omega
        have hE : a_associate a f v = (sA (setA (aNow a) f v) 0 + sA (setA (aNow a) f v) 1 + sA (setA (aNow a) f v) 2 + sA (setA (aNow a) f v) 3, aDo a (setA (aNow a) f v)) := by
          unfold a_associate
          rw [if_neg (not_not_intro hf)]
        rw [hE] at ht hX1
        have hs1 := hX1.aok
        have hA1 : ∀ g : Int, sFld g → a_associated (aDo a (setA (aNow a) f v)) g = sA (setA (aNow a) f v) g ∧ (sA (setA (aNow a) f v) g = 0 ∨ sA (setA (aNow a) f v) g = 1) := by
          intro g hg
          exact ⟨by rw [a_associated, if_neg (not_not_intro hg)]; rfl, sA_ok hs1 hg⟩
        have ef : sA (setA (aNow a) f v) f = v := uI_self _ _ _
        rw [if_neg c4]
        refine v_associated hN hX1 (fun w hw => ?_)
        have hw : w = a_associated (aDo a (setA (aNow a) f v)) f := hw
        rw [(hA1 f hf).1, ef] at hw
        refine jL_s (fun x73 => x73 = v) (fun j hj => ?_) (fun x73 h73 => ?_)
        · by_cases c : v = 0
          · rw [if_pos c]; exact hj _ c.symm
          · rw [if_neg c]; exact hj _ (by omega)
        have h73 : x73 = v := h73
        rw [if_pos (by omega)]
        obtain ⟨g0, g0b⟩ := hA1 0 (by decide)
        obtain ⟨g1, g1b⟩ := hA1 1 (by decide)
        obtain ⟨g2, g2b⟩ := hA1 2 (by decide)
        obtain ⟨g3, g3b⟩ := hA1 3 (by decide)
        refine v_associated hN hX1 (fun w0 hw0 => ?_)
        refine v_associated hN hX1 (fun w1 hw1 => ?_)
        refine v_associated hN hX1 (fun w2 hw2 => ?_)
        refine v_associated hN hX1 (fun w3 hw3 => ?_)
        have hw0 : w0 = a_associated (aDo a (setA (aNow a) f v)) 0 := hw0
        have hw1 : w1 = a_associated (aDo a (setA (aNow a) f v)) 1 := hw1
        have hw2 : w2 = a_associated (aDo a (setA (aNow a) f v)) 2 := hw2
        have hw3 : w3 = a_associated (aDo a (setA (aNow a) f v)) 3 := hw3
        have ht : t = sA (setA (aNow a) f v) 0 + sA (setA (aNow a) f v) 1 + sA (setA (aNow a) f v) 2 + sA (setA (aNow a) f v) 3 := ht
        rw [jW_id (by omega : jR (w0 + w1)), jW_id (by omega : jR (w0 + w1 + w2)), jW_id (by omega : jR (w0 + w1 + w2 + w3)), if_pos (by omega)]
        exact K _ _ hX1 aStep.done
    rw [if_neg e23]
    by_cases e26 : x1 < 26
    · rw [if_pos e26]
      refine low_k (by omega) (by omega) (fun c c0 c1 => ?_)
      refine low_k (by omega) (by omega) (fun kd k0 k1 => ?_)
      refine low_k (by omega) (by omega) (fun x81 _ _ => ?_)
      refine jL_s (fun x82 => x82 = 4 ∨ x82 = 5) (fun j hj => ?_) (fun x82 h82 => ?_)
      · by_cases c : x81 = 0
        · rw [if_pos c]; exact hj _ (Or.inr rfl)
        · rw [if_neg c]; exact hj _ (Or.inl rfl)
      refine low_k (by omega) (by omega) (fun f f0 f1 => ?_)
      refine low_k (by omega) (by omega) (fun x85 _ _ => ?_)
      refine jL_s (fun x86 => x86 = 4 ∨ x86 = 5) (fun j hj => ?_) (fun x86 h86 => ?_)
      · by_cases c : x85 = 0
        · rw [if_pos c]; exact hj _ (Or.inr rfl)
        · rw [if_neg c]; exact hj _ (Or.inl rfl)
      refine low_k (by omega) (by omega) (fun g g0 g1 => ?_)
      refine jL_s (fun x89 => (x89 = 1 ∧ (c = 6 ∨ f = 4 ∨ g = 4)) ∨ (x89 = 0 ∧ ¬ (c = 6 ∨ f = 4 ∨ g = 4))) (fun j hj => ?_) (fun x89 h89 => ?_)
      · by_cases q1 : c = 6
        · rw [if_pos q1]; exact hj _ (Or.inl ⟨rfl, Or.inl q1⟩)
        rw [if_neg q1]
        by_cases q2 : f = 4
        · rw [if_pos q2]; exact hj _ (Or.inl ⟨rfl, Or.inr (Or.inl q2)⟩)
        rw [if_neg q2]
        by_cases q3 : g = 4
        · rw [if_pos q3]; exact hj _ (Or.inl ⟨rfl, Or.inr (Or.inr q3)⟩)
        rw [if_neg q3]; exact hj _ (Or.inr ⟨rfl, by omega⟩)
      refine jL_s (fun x91 => ¬ c = 6 → x91 = sC (aNow a) c 0) (fun j hj => ?_) (fun x91 h91 => ?_)
      · by_cases q1 : c = 6
        · rw [if_pos q1]; exact hj _ (fun z => absurd q1 z)
        · rw [if_neg q1]
          refine v_column hN hX (fun w hw => ?_)
          rw [a_column, if_neg (by omega), if_pos (by decide)] at hw
          exact hj _ (fun _ => hw)
      refine v_define hN hX (fun t M1 ht hX1 => ?_)
      rcases h89 with ⟨e89, q⟩ | ⟨e89, q⟩
      · have hE : a_define a c kd f g = (-1000001, a) := by
          unfold a_define
          rw [if_pos (by omega)]
        rw [hE] at ht hX1
        refine jL_s (fun x95 => x95 = t) (fun j hj => ?_) (fun x95 h95 => ?_)
        · rw [if_neg (by omega)]; exact hj _ ht.symm
        rw [if_pos h95.symm, if_neg (by omega)]
        exact K _ _ hX1 aStep.same
      · have hc : sCol c := by omega
        by_cases q5 : kd = 5
        · have hE : a_define a c kd f g = (-1000002, a) := by
            unfold a_define
            rw [if_neg (by omega), if_pos (by omega)]
          rw [hE] at ht hX1
          refine jL_s (fun x95 => x95 = t) (fun j hj => ?_) (fun x95 h95 => ?_)
          · rw [if_pos e89, if_pos q5]; exact hj _ ht.symm
          rw [if_pos h95.symm, if_pos e89, if_pos q5]
          exact K _ _ hX1 aStep.same
        · have hE : a_define a c kd f g = (sC (aNow a) c 0, aDo a (setC (aNow a) c kd f g)) := by
            unfold a_define
            rw [if_neg (by omega), if_neg (by omega)]
          rw [hE] at ht hX1
          have ht : t = sC (aNow a) c 0 := ht
          refine jL_s (fun x95 => x95 = t) (fun j hj => ?_) (fun x95 h95 => ?_)
          · rw [if_pos e89, if_neg q5]; exact hj _ ((h91 (by omega)).trans ht.symm)
          rw [if_pos h95.symm, if_pos e89, if_neg q5]
          have eC : ∀ w : Int, 0 ≤ w → w ≤ 2 → a_column (aDo a (setC (aNow a) c kd f g)) c w = if w = 0 then kd else if w = 1 then f else g := by
            intro w w0 w1
            rw [a_column, if_neg (not_not_intro hc), if_pos ⟨w0, w1⟩]
            show uI (sC (aNow a)) c _ c w = _
            rw [uI_self]
          refine v_column hN hX1 (fun w hw => ?_)
          have hw : w = a_column (aDo a (setC (aNow a) c kd f g)) c 0 := hw
          rw [eC 0 (by decide) (by decide), if_pos rfl] at hw
          rw [if_pos hw]
          refine v_column hN hX1 (fun w hw => ?_)
          have hw : w = a_column (aDo a (setC (aNow a) c kd f g)) c 1 := hw
          rw [eC 1 (by decide) (by decide), if_neg (by decide), if_pos rfl] at hw
          rw [if_pos hw]
          refine v_column hN hX1 (fun w hw => ?_)
          have hw : w = a_column (aDo a (setC (aNow a) c kd f g)) c 2 := hw
          rw [eC 2 (by decide) (by decide), if_neg (by decide), if_neg (by decide)] at hw
          rw [if_pos hw]
          exact K _ _ hX1 aStep.done
    rw [if_neg e26]
    refine low_k (by omega) (by omega) (fun l l0 l1 => ?_)
    by_cases e29 : x1 < 29
    · rw [if_pos e29]
      refine low_k (by omega) (by omega) (fun c c0 c1 => ?_)
      refine low_k (by omega) (by omega) (fun ts t0 t1 => ?_)
      refine low_k (by omega) (by omega) (fun x104 _ _ => ?_)
      refine jL_s (fun x105 => x105 = 11 ∨ x105 = 2000003) (fun j hj => ?_) (fun x105 h105 => ?_)
      · by_cases c : x104 = 0
        · rw [if_pos c]; exact hj _ (Or.inr rfl)
        · rw [if_neg c]; exact hj _ (Or.inl rfl)
      refine low_k (by omega) (by omega) (fun x107 _ _ => ?_)
      refine low_k (by omega) (by omega) (fun x108 _ _ => ?_)
      refine jL_s (fun x109 => x109 = 5 ∨ x109 = 1000001) (fun j hj => ?_) (fun x109 h109 => ?_)
      · by_cases c : x108 = 0
        · rw [if_pos c]; exact hj _ (Or.inr rfl)
        · rw [if_neg c]; exact hj _ (Or.inl rfl)
      refine jL_w (by omega) (fun z hz => ?_)
      refine jL_s (fun x112 => (x112 = 0 ∧ ¬ (ts = 3 ∨ z < -1000000 ∨ 1000000 < z)) ∨ (x112 = 1 ∧ (ts = 3 ∨ z < -1000000 ∨ 1000000 < z))) (fun j hj => ?_) (fun x112 h112 => ?_)
      · by_cases q1 : ts = 3
        · rw [if_pos q1]; exact hj _ (Or.inr ⟨rfl, Or.inl q1⟩)
        rw [if_neg q1]
        by_cases q2 : z < -1000000
        · rw [if_pos q2]; exact hj _ (Or.inr ⟨rfl, Or.inr (Or.inl q2)⟩)
        rw [if_neg q2]
        by_cases q3 : z ≤ 1000000
        · rw [if_pos q3]; exact hj _ (Or.inl ⟨rfl, by omega⟩)
        · rw [if_neg q3]; exact hj _ (Or.inr ⟨rfl, by omega⟩)
      refine low_k (by omega) (by omega) (fun x114 _ _ => ?_)
      refine jL_s (fun _ => True) (fun j hj => ?_) (fun e _ => ?_)
      · by_cases c : x114 = 0
        · rw [if_pos c]; exact hj _ trivial
        · rw [if_neg c]; exact hj _ trivial
      refine v_select hN hX (fun t M1 ht hX1 => ?_)
      by_cases q : c = 6 ∨ l = 8
      · have hE : a_select a c ts z e l = (-1000001, a) := by
          unfold a_select
          rw [if_pos (by omega)]
        rw [hE] at ht hX1
        have ht : t = -1000001 := ht
        refine jL_s (fun x119 => x119 = t) (fun j hj => ?_) (fun x119 h119 => ?_)
        · by_cases q1 : c = 6
          · rw [if_pos q1]; exact hj _ ht.symm
          · rw [if_neg q1, if_pos (by omega)]; exact hj _ ht.symm
        rw [if_pos h119.symm, if_pos (by omega)]
        exact K _ _ hX1 aStep.same
      · rcases h112 with ⟨e112, q2⟩ | ⟨e112, q2⟩
        · have hE : a_select a c ts z e l = (nList (selS (aNow a) c ts z e l) l, aDo a (selS (aNow a) c ts z e l)) := by
            unfold a_select
            rw [if_neg (by omega), if_neg (by omega)]
          rw [hE] at ht hX1
          have ht : t = nList (selS (aNow a) c ts z e l) l := ht
          have hle := select_le (s := aNow a) (c := c) (t := ts) (x := z) (e := e) (l := l)
          have hn := nList_ok (selS (aNow a) c ts z e l) l
          refine jL_s (fun x119 => x119 = t) (fun j hj => ?_) (fun x119 h119 => ?_)
          · rw [if_neg (by omega), if_neg (by omega), if_pos e112]; exact hj _ rfl
          rw [if_pos h119.symm, if_neg (by omega), if_pos (by omega)]
          refine v_listSize hN hX1 (fun w hw => ?_)
          rw [listSize_in (by omega)] at hw
          have hw : w = nList (selS (aNow a) c ts z e l) l := hw
          rw [if_pos (by omega)]
          exact K _ _ hX1 aStep.done
        · have hE : a_select a c ts z e l = (-1000002, a) := by
            unfold a_select
            rw [if_neg (by omega), if_pos (by omega)]
          rw [hE] at ht hX1
          have ht : t = -1000002 := ht
          refine jL_s (fun x119 => x119 = t) (fun j hj => ?_) (fun x119 h119 => ?_)
          · rw [if_neg (by omega), if_neg (by omega), if_neg (by omega)]; exact hj _ ht.symm
          rw [if_pos h119.symm, if_pos (by omega)]
          exact K _ _ hX1 aStep.same
    rw [if_neg e29]
    by_cases e31 : x1 < 31
    · rw [if_pos e31]
      refine low_k (by omega) (by omega) (fun kd k0 k1 => ?_)
      refine low_k (by omega) (by omega) (fun x123 _ _ => ?_)
      refine jL_s (fun x124 => x124 = 8 ∨ x124 = 9) (fun j hj => ?_) (fun x124 h124 => ?_)
      · by_cases c : x123 = 0
        · rw [if_pos c]; exact hj _ (Or.inr rfl)
        · rw [if_neg c]; exact hj _ (Or.inl rfl)
      refine low_k (by omega) (by omega) (fun f f0 f1 => ?_)
      refine low_k (by omega) (by omega) (fun x127 _ _ => ?_)
      refine jL_s (fun x128 => x128 = 8 ∨ x128 = 9) (fun j hj => ?_) (fun x128 h128 => ?_)
      · by_cases c : x127 = 0
        · rw [if_pos c]; exact hj _ (Or.inr rfl)
        · rw [if_neg c]; exact hj _ (Or.inl rfl)
      refine low_k (by omega) (by omega) (fun g g0 g1 => ?_)
      refine jL_s (fun x131 => (x131 = 1 ∧ (l = 8 ∨ f = 8 ∨ g = 8)) ∨ (x131 = 0 ∧ ¬ (l = 8 ∨ f = 8 ∨ g = 8))) (fun j hj => ?_) (fun x131 h131 => ?_)
      · by_cases q1 : l = 8
        · rw [if_pos q1]; exact hj _ (Or.inl ⟨rfl, Or.inl q1⟩)
        rw [if_neg q1]
        by_cases q2 : f = 8
        · rw [if_pos q2]; exact hj _ (Or.inl ⟨rfl, Or.inr (Or.inl q2)⟩)
        rw [if_neg q2]
        by_cases q3 : g = 8
        · rw [if_pos q3]; exact hj _ (Or.inl ⟨rfl, Or.inr (Or.inr q3)⟩)
        rw [if_neg q3]; exact hj _ (Or.inr ⟨rfl, by omega⟩)
      refine jL_s (fun x133 => x131 = 0 → x133 = nList (aNow a) f) (fun j hj => ?_) (fun x133 h133 => ?_)
      · by_cases q : x131 = 0
        · rw [if_pos q]
          refine v_listSize hN hX (fun w hw => ?_)
          rw [listSize_in (by omega)] at hw
          exact hj _ (fun _ => hw)
        · rw [if_neg q]; exact hj _ (fun z => absurd z q)
      refine jL_s (fun x135 => x131 = 0 → x135 = nList (aNow a) g) (fun j hj => ?_) (fun x135 h135 => ?_)
      · by_cases q : x131 = 0
        · rw [if_pos q]
          refine v_listSize hN hX (fun w hw => ?_)
          rw [listSize_in (by omega)] at hw
          exact hj _ (fun _ => hw)
        · rw [if_neg q]; exact hj _ (fun z => absurd z q)
      refine v_combine hN hX (fun t M1 ht hX1 => ?_)
      rcases h131 with ⟨e131, q⟩ | ⟨e131, q⟩
      · have hE : a_combine a kd f g l = (-1000001, a) := by
          unfold a_combine
          rw [if_pos (by omega)]
        rw [hE] at ht hX1
        rw [if_neg (by omega), if_pos ht]
        exact K _ _ hX1 aStep.same
      · have h133 := h133 e131
        have h135 := h135 e131
        rw [if_pos e131]
        by_cases q3 : kd = 3
        · have hE : a_combine a kd f g l = (-1000002, a) := by
            unfold a_combine
            rw [if_neg (by omega), if_pos (by omega)]
          rw [hE] at ht hX1
          rw [if_pos q3, if_pos ht]
          exact K _ _ hX1 aStep.same
        · rw [if_neg q3]
          unfold a_combine at ht hX1
          rw [if_neg (by omega), if_neg (by omega)] at ht hX1
          dsimp only at ht hX1
          generalize hG : (fun i : Int => if kd = 0 then sL (aNow a) f i && sL (aNow a) g i else if kd = 1 then sL (aNow a) f i || sL (aNow a) g i else sL (aNow a) f i && !sL (aNow a) g i) = Gf at ht hX1
          have hn := nList_ok (aNow a) f
          have hn2 := nList_ok (aNow a) g
          refine v_listSize hN hX1 (fun w hw => ?_)
          rw [listSize_in (by omega)] at hw
          have hw : w = nList (setL (aNow a) l Gf) l := hw
          rw [if_pos (by omega)]
          rw [nList_setL] at ht
          have hF : nList (aNow a) f = ((List.range 100).countP (fun i : Nat => sL (aNow a) f i) : Nat) := rfl
          have hGg : nList (aNow a) g = ((List.range 100).countP (fun i : Nat => sL (aNow a) g i) : Nat) := rfl
          by_cases q0 : kd = 0
          · have m1 : (List.range 100).countP (fun i : Nat => Gf i) ≤ (List.range 100).countP (fun i : Nat => sL (aNow a) f i) := countP_mono (fun i _ h => by
              rw [← hG] at h
              dsimp only at h
              rw [if_pos q0] at h
              simp at h
              exact h.1)
            have m2 : (List.range 100).countP (fun i : Nat => Gf i) ≤ (List.range 100).countP (fun i : Nat => sL (aNow a) g i) := countP_mono (fun i _ h => by
              rw [← hG] at h
              dsimp only at h
              rw [if_pos q0] at h
              simp at h
              exact h.2)
            rw [if_pos q0, if_pos (by omega), if_pos (by omega)]
            exact K _ _ hX1 aStep.done
          rw [if_neg q0]
          by_cases q1 : kd = 1
          · have m1 : (List.range 100).countP (fun i : Nat => sL (aNow a) f i) ≤ (List.range 100).countP (fun i : Nat => Gf i) := countP_mono (fun i _ h => by
              rw [← hG]
              dsimp only
              rw [if_neg q0, if_pos q1, h]
              rfl)
            have m2 : (List.range 100).countP (fun i : Nat => sL (aNow a) g i) ≤ (List.range 100).countP (fun i : Nat => Gf i) := countP_mono (fun i _ h => by
              rw [← hG]
              dsimp only
              rw [if_neg q0, if_pos q1, h]
              simp)
            have m3 := countP_or (P := fun i : Nat => sL (aNow a) f i) (Q := fun i : Nat => sL (aNow a) g i) (List.range 100)
            have m4 : (List.range 100).countP (fun i : Nat => Gf i) = (List.range 100).countP (fun i : Nat => sL (aNow a) f i || sL (aNow a) g i) := by
              congr 1
              funext i
              rw [← hG]
              dsimp only
              rw [if_neg q0, if_pos q1]
            rw [if_pos q1, if_neg (by omega), if_neg (by omega), jW_id (by omega), if_pos (by omega)]
            exact K _ _ hX1 aStep.done
          · have m1 : (List.range 100).countP (fun i : Nat => Gf i) ≤ (List.range 100).countP (fun i : Nat => sL (aNow a) f i) := countP_mono (fun i _ h => by
              rw [← hG] at h
              dsimp only at h
              rw [if_neg q0, if_neg q1] at h
              simp at h
              exact h.1)
            have m2 : (List.range 100).countP (fun i : Nat => sL (aNow a) f i) ≤ (List.range 100).countP (fun i : Nat => Gf i || sL (aNow a) g i) := countP_mono (fun i _ h => by
              rw [← hG]
              dsimp only
              rw [if_neg q0, if_neg q1, h]
              cases sL (aNow a) g i <;> rfl)
            have m3 := countP_or (P := fun i : Nat => Gf i) (Q := fun i : Nat => sL (aNow a) g i) (List.range 100)
            rw [if_neg q1, if_pos (by omega), jW_id (by omega), if_neg (by omega)]
            exact K _ _ hX1 aStep.done
    rw [if_neg e31]
    refine jL_s (fun x142 => (l = 8 → x142 = -1000001) ∧ (¬ l = 8 → x142 = nList (aNow a) l)) (fun j hj => ?_) (fun x142 h142 => ?_)
    · by_cases q : l = 8
      · rw [if_pos q]; exact hj _ ⟨fun _ => rfl, fun z => absurd q z⟩
      · rw [if_neg q]
        refine v_listSize hN hX (fun w hw => ?_)
        rw [listSize_in (by omega)] at hw
        exact hj _ ⟨fun z => absurd z q, fun _ => hw⟩
    refine v_clearList hN hX (fun t M1 ht hX1 => ?_)
    by_cases q : l = 8
    · have hE : a_clearList a l = (-1000001, a) := by
        unfold a_clearList
        rw [if_pos (by omega)]
      rw [hE] at ht hX1
      rw [if_pos (by rw [h142.1 q]; exact ht), if_pos q]
      exact K _ _ hX1 aStep.same
    · have hE : a_clearList a l = (nList (aNow a) l, aDo a (setL (aNow a) l (fun _ => false))) := by
        unfold a_clearList
        rw [if_neg (by omega)]
      rw [hE] at ht hX1
      rw [if_pos (by rw [h142.2 q]; exact ht), if_neg q]
      refine v_listSize hN hX1 (fun w hw => ?_)
      rw [listSize_in (by omega)] at hw
      have hw : w = nList (setL (aNow a) l (fun _ => false)) l := hw
      rw [nList_setL] at hw
      have e0 : (List.range 100).countP (fun _ : Nat => false) = 0 := by
        rw [List.countP_eq_zero]
        intro i _ z
        exact absurd z (by simp)
      rw [if_pos (by omega)]
      exact K _ _ hX1 aStep.done
  have h14 : M14 = M := h14
  subst h14
  refine low_k (by omega) (by omega) (fun x15 _ _ => ?_)
  refine jL_w (by omega) (fun m hm => ?_)
  refine jL_s (fun x17 => (x17 = 0 ∧ 0 ≤ m ∧ m < 100) ∨ (x17 = 1 ∧ ¬ (0 ≤ m ∧ m < 100))) (fun j hj => ?_) (fun x17 h17 => ?_)
  · by_cases c : m < 0
    · rw [if_pos c]; exact hj _ (Or.inr ⟨rfl, by omega⟩)
    · rw [if_neg c]
      by_cases c2 : m ≤ 99
      · rw [if_pos c2]; exact hj _ (Or.inl ⟨rfl, by omega, by omega⟩)
      · rw [if_neg c2]; exact hj _ (Or.inr ⟨rfl, by omega⟩)
  refine jL_s (fun x19 => x17 = 0 → ((x19 = 1 ∧ m ∈ sI (aNow a)) ∨ (x19 = 0 ∧ m ∉ sI (aNow a)))) (fun j hj => ?_) (fun x19 h19 => ?_)
  · by_cases c : x17 = 0
    · rw [if_pos c]
      refine v_locker hN hX (fun w hw => ?_)
      by_cases c2 : m ∈ sI (aNow a)
      · rw [locker_in c2] at hw
        have := (hs.2 m c2).2.1
        rw [if_neg (by omega)]; exact hj _ (fun _ => Or.inl ⟨rfl, c2⟩)
      · rw [locker_out c2] at hw
        rw [if_pos hw]; exact hj _ (fun _ => Or.inr ⟨rfl, c2⟩)
    · rw [if_neg c]; exact hj _ (fun z => absurd z c)
  refine v_create hN hX (fun t M1 ht hX1 => ?_)
  rcases h17 with ⟨e17, m0, m1⟩ | ⟨e17, q⟩
  · rcases h19 e17 with ⟨e19, q⟩ | ⟨e19, q⟩
    · have hE : a_create a m = (-1000005, a) := by
        unfold a_create
        rw [if_neg (by omega), if_pos q]
      rw [hE] at ht hX1
      refine jL_s (fun x23 => x23 = t) (fun j hj => ?_) (fun x23 h23 => ?_)
      · rw [if_pos e17, if_neg (by omega)]; exact hj _ ht.symm
      rw [if_pos h23.symm, if_pos e17, if_neg (by omega)]
      exact K _ _ hX1 aStep.same
    · by_cases q10 : x2 = 10
      · have hE : a_create a m = (-1000004, a) := by
          unfold a_create
          rw [if_neg (by omega), if_neg q, if_pos (by omega)]
        rw [hE] at ht hX1
        refine jL_s (fun x23 => x23 = t) (fun j hj => ?_) (fun x23 h23 => ?_)
        · rw [if_pos e17, if_pos e19, if_pos q10]; exact hj _ ht.symm
        rw [if_pos h23.symm, if_pos e17, if_pos e19, if_pos q10]
        exact K _ _ hX1 aStep.same
      · have hE : a_create a m = (((sI (aNow a)).length : Int) + 1, aDo a (sAdd (aNow a) m)) := by
          unfold a_create
          rw [if_neg (by omega), if_neg q, if_neg (by omega)]
        rw [hE] at ht hX1
        have ht : t = ((sI (aNow a)).length : Int) + 1 := ht
        have eI : m ∈ sI (aNow (aDo a (sAdd (aNow a) m))) := sAdd_in
        refine jL_s (fun x23 => x23 = t) (fun j hj => ?_) (fun x23 h23 => ?_)
        · rw [if_pos e17, if_pos e19, if_neg q10]; exact hj _ (by omega)
        rw [if_pos h23.symm, if_pos e17, if_pos e19, if_neg q10]
        refine v_locker hN hX1 (fun w hw => ?_)
        have e1 : a_locker (aDo a (sAdd (aNow a) m)) m = -1000007 := by
          rw [locker_in eI]
          exact uI_self _ _ _
        have hw : w = a_locker (aDo a (sAdd (aNow a) m)) m := hw
        rw [if_pos (by omega)]
        refine v_lines hN hX1 (fun w hw => ?_)
        have e2 : a_lines (aDo a (sAdd (aNow a) m)) m = 0 := by
          rw [lines_in eI]
          exact nLines_add
        have hw : w = a_lines (aDo a (sAdd (aNow a) m)) m := hw
        rw [if_pos (by omega)]
        exact K _ _ hX1 aStep.done
  · have hE : a_create a m = (-1000002, a) := by
      unfold a_create
      rw [if_pos q]
    rw [hE] at ht hX1
    refine jL_s (fun x23 => x23 = t) (fun j hj => ?_) (fun x23 h23 => ?_)
    · rw [if_neg (by omega)]; exact hj _ ht.symm
    rw [if_pos h23.symm, if_neg (by omega)]
    exact K _ _ hX1 aStep.same
