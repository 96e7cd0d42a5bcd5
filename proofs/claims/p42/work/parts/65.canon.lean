/-! a text that is read without a fault is the text that is printed of what was read -/
theorem prV_app (V : List Int) (x : Int) : ∀ k : Nat, prV k (V ++ [x]) = prV k V ++ (if 0 < k + V.length then [47] else []) ++ numT x := by
  induction V with
  | nil => intro k; simp [prV]
  | cons y V ih =>
    intro k
    show (if 0 < k then [47] else []) ++ numT y ++ prV (k + 1) (V ++ [x]) = (if 0 < k then [47] else []) ++ numT y ++ prV (k + 1) V ++ _ ++ _
    rw [ih (k + 1), if_pos (by omega : 0 < k + 1 + V.length), if_pos (by simp only [List.length_cons]; omega : 0 < k + (y :: V).length)]
    simp only [List.append_assoc]
theorem prL_app (L : List (List Int)) (V : List Int) : ∀ v : Nat, prL v (L ++ [V]) = prL v L ++ (if 0 < v + L.length then [93] else []) ++ prV 0 V := by
  induction L with
  | nil => intro v; simp [prL]
  | cons W L ih =>
    intro v
    show (if 0 < v then [93] else []) ++ prV 0 W ++ prL (v + 1) (L ++ [V]) = (if 0 < v then [93] else []) ++ prV 0 W ++ prL (v + 1) L ++ _ ++ _
    rw [ih (v + 1), if_pos (by omega : 0 < v + 1 + L.length), if_pos (by simp only [List.length_cons]; omega : 0 < v + (W :: L).length)]
    simp only [List.append_assoc]
/-- what stands ahead of a field's last number -/
def aheadT (F : rF) (f : Nat) (L : List (List Int)) (V : List Int) : List Int := prR F f ++ (if 0 < f then [94] else []) ++ (prL 0 L ++ (if 0 < L.length then [93] else []) ++ (prV 0 V ++ (if 0 < V.length then [47] else [])))
theorem prR_last {F : rF} {f : Nat} {L : List (List Int)} {V : List Int} {y : Int} (h : F f = L ++ [V ++ [y]]) : prR F (f + 1) = aheadT F f L V ++ numT y := by
  show prR F f ++ (if 0 < f then [94] else []) ++ prL 0 (F f) = _
  rw [h, prL_app, prV_app]
  unfold aheadT
  simp only [List.append_assoc, Nat.zero_add]
theorem prR_congr {F F' : rF} : ∀ f : Nat, (∀ g : Nat, g < f → F' g = F g) → prR F' f = prR F f := by
  intro f
  induction f with
  | zero => intro _; rfl
  | succ f ih =>
    intro h
    show prR F' f ++ _ ++ prL 0 (F' f) = prR F f ++ _ ++ prL 0 (F f)
    rw [ih (fun g hg => h g (by omega)), h f (by omega)]
theorem aheadT_congr {F F' : rF} {f : Nat} {L : List (List Int)} {V : List Int} (h : ∀ g : Nat, g < f → F' g = F g) : aheadT F' f L V = aheadT F f L V := by
  unfold aheadT
  rw [prR_congr f h]
theorem lv_app {L : List (List Int)} {W : List Int} : lv (L ++ [W]) = (L.length : Int) := by
  unfold lv fL
  simp
theorem fV_app {L : List (List Int)} {W : List Int} : fV (L ++ [W]) (lv (L ++ [W])) = W := by
  rw [lv_app]
  unfold fV
  simp
theorem ls_app {L : List (List Int)} {V : List Int} {y : Int} : ls (L ++ [V ++ [y]]) = (V.length : Int) := by
  unfold ls fS
  rw [fV_app]
  simp
theorem chg_app {L : List (List Int)} {V : List Int} {y x : Int} : fChg (L ++ [V ++ [y]]) (lv (L ++ [V ++ [y]])) (ls (L ++ [V ++ [y]])) x = L ++ [V ++ [x]] := by
  unfold fChg
  rw [fV_app, ls_app, lv_app]
  simp
theorem insIdx_end {α : Type} (W : List α) (x : α) : W.insertIdx W.length x = W ++ [x] := by
  induction W with
  | nil => rfl
  | cons y W ih =>
    show y :: W.insertIdx W.length x = y :: (W ++ [x])
    rw [ih]
theorem insS_app {L : List (List Int)} {V : List Int} {y x : Int} : fInsS (L ++ [V ++ [y]]) (lv (L ++ [V ++ [y]])) (ls (L ++ [V ++ [y]]) + 1) x = L ++ [(V ++ [y]) ++ [x]] := by
  unfold fInsS
  rw [fV_app, ls_app, lv_app]
  have e : ((V.length : Int) + 1).toNat = (V ++ [y]).length := by simp
  rw [e, insIdx_end]
  simp
theorem insV_app {L : List (List Int)} {W : List Int} {x : Int} : fInsV (L ++ [W]) (lv (L ++ [W]) + 1) x = (L ++ [W]) ++ [[] ++ [x]] := by
  unfold fInsV
  rw [lv_app]
  have e : ((L.length : Int) + 1).toNat = (L ++ [W]).length := by simp
  rw [e, insIdx_end]
  simp
theorem numT_0 (d : Int) (h0 : 0 ≤ d) (h1 : d ≤ 9) : numT d = [48 + d] := by
  unfold numT
  rw [if_neg (by omega), if_neg (by omega), if_neg (by omega)]
  simp
  omega
theorem numT_n (d : Int) (h0 : 1 ≤ d) (h1 : d ≤ 9) : numT (-d) = [45, 48 + d] := by
  unfold numT
  rw [if_pos (by omega), if_neg (by omega), if_neg (by omega)]
  simp
  omega
theorem numT_app {n d : Int} (h : n ≠ 0) (hn : n.natAbs < 100) (h0 : 0 ≤ d) (h1 : d ≤ 9) : numT (if 0 < n then n * 10 + d else n * 10 + -d) = numT n ++ [48 + d] := by
  unfold numT
  by_cases c : 0 < n
  · rw [if_pos c]
    by_cases c2 : 10 ≤ n
    · rw [if_neg (by omega), if_pos (by omega), if_pos (by omega), if_neg (by omega), if_neg (by omega), if_pos (by omega)]
      simp
      omega
    · rw [if_neg (by omega), if_neg (by omega), if_pos (by omega), if_neg (by omega), if_neg (by omega), if_neg (by omega)]
      simp
      omega
  · rw [if_neg c]
    by_cases c2 : n ≤ -10
    · rw [if_pos (by omega), if_pos (by omega), if_pos (by omega), if_pos (by omega), if_neg (by omega), if_pos (by omega)]
      simp
      omega
    · rw [if_pos (by omega), if_neg (by omega), if_pos (by omega), if_pos (by omega), if_neg (by omega), if_neg (by omega)]
      simp
      omega
/-- where the reader stands behind the text P -/
def RT (P : List Int) (st : Int) (f : Nat) (num ng : Int) (F : rF) : Prop :=
  f ≤ 3 ∧ (∀ g : Nat, f < g → F g = []) ∧
  ((st = 0 ∧ F f = [] ∧ prR F (f + 1) = P) ∨
   (∃ (L : List (List Int)) (V : List Int) (y : Int), F f = L ++ [V ++ [y]] ∧
    ((st = 1 ∧ P = aheadT F f L V) ∨ (st = 2 ∧ P = aheadT F f L V ++ [45] ∧ ng = 1 ∧ num = 0) ∨
     (st = 3 ∧ P = aheadT F f L V ++ numT num ∧ y = num ∧ num.natAbs ≤ 999 ∧ ((ng = 0 ∧ 0 ≤ num) ∨ (ng = 1 ∧ num < 0))))))
theorem RT.set {P' : List Int} {st' : Int} {f : Nat} {num' ng' : Int} {F : rF} {L : List (List Int)} {V : List Int} {y : Int} (hf : f ≤ 3) (he : ∀ g : Nat, f < g → F g = []) (Q : List Int) (hQ : Q = aheadT F f L V)
    (h : (st' = 1 ∧ P' = Q) ∨ (st' = 2 ∧ P' = Q ++ [45] ∧ ng' = 1 ∧ num' = 0) ∨ (st' = 3 ∧ P' = Q ++ numT num' ∧ y = num' ∧ num'.natAbs ≤ 999 ∧ ((ng' = 0 ∧ 0 ≤ num') ∨ (ng' = 1 ∧ num' < 0)))) : RT P' st' f num' ng' (uI F (f : Int) (L ++ [V ++ [y]])) := by
  refine ⟨hf, fun g hg => ?_, Or.inr ⟨L, V, y, by simp [uI], ?_⟩⟩
  · rw [uI_ne (by omega)]
    exact he g hg
  · rw [aheadT_congr (F := F) (fun g hg => uI_ne (by omega)), ← hQ]
    exact h
theorem ahead_nil {F : rF} {f : Nat} {P : List Int} (h0 : F f = []) (h : prR F (f + 1) = P) : P = aheadT F f [] [] := by
  rw [← h]
  show prR F f ++ (if 0 < f then [94] else []) ++ prL 0 (F f) = _
  rw [h0]
  unfold aheadT
  simp [prL, prV]
theorem RT.dig {P : List Int} {st : Int} {f : Nat} {num ng : Int} {F : rF} {s : rS} {c : Int} (h : RT P st f num ng F) (hc : 48 ≤ c ∧ c ≤ 57) (hs : rdStep st f num ng F c = some s) : ∃ f' : Nat, s.2.1 = f' ∧ RT (P ++ [c]) s.1 f' s.2.2.1 s.2.2.2.1 s.2.2.2.2 := by
  obtain ⟨hf, he, h⟩ := h
  have e48 : (48 : Int) + (c - 48) = c := by omega
  unfold rdStep at hs
  rw [if_pos hc] at hs
  rcases h with ⟨h0, h1, h2⟩ | ⟨L, V, y, hF, h | h | h⟩
  · rw [if_neg (by omega), if_neg (by omega)] at hs
    have hs := Option.some.inj hs
    subst hs
    unfold rDig rBeg rNew
    refine ⟨f, rfl, ?_⟩
    dsimp only
    rw [if_pos h0, if_pos rfl, uI_self, h1]
    have e1 : fInsV [] 0 0 = [] ++ [[] ++ [(0 : Int)]] := rfl
    rw [e1, chg_app]
    have e2 : uI (uI F (f : Int) ([] ++ [[] ++ [(0 : Int)]])) (f : Int) ([] ++ [[] ++ [0 * 10 + (c - 48)]]) = uI F (f : Int) ([] ++ [[] ++ [0 * 10 + (c - 48)]]) := by
      funext j
      unfold uI
      split <;> rfl
    rw [e2]
    refine RT.set hf he P (ahead_nil h1 h2) (Or.inr (Or.inr ⟨rfl, ?_, rfl, by omega, Or.inl ⟨rfl, by omega⟩⟩))
    rw [Int.zero_mul, Int.zero_add, numT_0 _ (by omega) (by omega), e48]
  · rw [if_neg (by omega), if_neg (by omega)] at hs
    have hs := Option.some.inj hs
    subst hs
    unfold rDig rBeg rNew
    refine ⟨f, rfl, ?_⟩
    dsimp only
    rw [if_neg (by omega : ¬ st = 0), if_pos rfl, hF, chg_app]
    refine RT.set hf he P h.2 (Or.inr (Or.inr ⟨rfl, ?_, rfl, by omega, Or.inl ⟨rfl, by omega⟩⟩))
    rw [Int.zero_mul, Int.zero_add, numT_0 _ (by omega) (by omega), e48]
  · obtain ⟨h0, h2, h3, h4⟩ := h
    rw [if_pos h0] at hs
    by_cases c0 : c = 48
    · rw [if_pos c0] at hs; exact absurd hs (by simp)
    · rw [if_neg c0] at hs
      have hs := Option.some.inj hs
      subst hs
      unfold rDig rNew
      refine ⟨f, rfl, ?_⟩
      dsimp only
      rw [if_neg (by omega), hF, chg_app]
      refine RT.set hf he _ rfl (Or.inr (Or.inr ⟨rfl, ?_, rfl, by omega, Or.inr ⟨h3, by omega⟩⟩))
      rw [h4, Int.zero_mul, Int.zero_add, numT_n _ (by omega) (by omega), e48, h2]
      simp
  · obtain ⟨h0, h2, h3, h4, h5⟩ := h
    rw [if_neg (by omega), if_pos h0] at hs
    by_cases c0 : num = 0 ∨ 100 ≤ num.natAbs
    · rw [if_pos c0] at hs; exact absurd hs (by simp)
    · rw [if_neg c0] at hs
      have hs := Option.some.inj hs
      subst hs
      unfold rDig rNew
      refine ⟨f, rfl, ?_⟩
      dsimp only
      have hn := numT_app (n := num) (d := c - 48) (by omega) (by omega) (by omega) (by omega)
      rw [e48] at hn
      rw [hF, chg_app]
      rcases h5 with ⟨h5, h6⟩ | ⟨h5, h6⟩
      · rw [if_pos (by omega)] at hn
        rw [if_pos h5]
        refine RT.set hf he _ rfl (Or.inr (Or.inr ⟨rfl, ?_, rfl, by omega, Or.inl ⟨h5, by omega⟩⟩))
        rw [hn, h2]
        simp
      · rw [if_neg (by omega)] at hn
        rw [if_neg (by omega)]
        refine RT.set hf he _ rfl (Or.inr (Or.inr ⟨rfl, ?_, rfl, by omega, Or.inr ⟨h5, by omega⟩⟩))
        rw [hn, h2]
        simp
theorem RT.step {P : List Int} {st : Int} {f : Nat} {num ng : Int} {F : rF} {s : rS} {c : Int} (h : RT P st f num ng F) (hs : rdStep st f num ng F c = some s) : ∃ f' : Nat, s.2.1 = f' ∧ RT (P ++ [c]) s.1 f' s.2.2.1 s.2.2.2.1 s.2.2.2.2 := by
  by_cases hc : 48 ≤ c ∧ c ≤ 57
  · exact h.dig hc hs
  obtain ⟨hf, he, h⟩ := h
  unfold rdStep at hs
  rw [if_neg hc] at hs
  by_cases c1 : c = 45
  · rw [if_pos c1] at hs
    by_cases c2 : st = 0 ∨ st = 1
    · rw [if_pos c2] at hs
      have hs := Option.some.inj hs
      subst hs
      unfold rBeg
      refine ⟨f, rfl, ?_⟩
      dsimp only
      rcases h with ⟨h0, h1, h2⟩ | ⟨L, V, y, hF, h | h | h⟩
      · rw [if_pos h0, h1]
        have e1 : fInsV [] 0 0 = [] ++ [[] ++ [(0 : Int)]] := rfl
        rw [e1]
        refine RT.set hf he P (ahead_nil h1 h2) (Or.inr (Or.inl ⟨rfl, by rw [c1], rfl, rfl⟩))
      · rw [if_neg (by omega)]
        exact ⟨hf, he, Or.inr ⟨L, V, y, hF, Or.inr (Or.inl ⟨rfl, by rw [c1, h.2], rfl, rfl⟩)⟩⟩
      · omega
      · omega
    · rw [if_neg c2] at hs; exact absurd hs (by simp)
  rw [if_neg c1] at hs
  by_cases c2 : c = 47
  · rw [if_pos c2] at hs
    split at hs
    · next c3 =>
      have hs := Option.some.inj hs
      subst hs
      refine ⟨f, rfl, ?_⟩
      dsimp only
      rcases h with ⟨h0, h1, h2⟩ | ⟨L, V, y, hF, h | h | h⟩
      · omega
      · omega
      · omega
      · obtain ⟨h0, h2, h3, h4, h5⟩ := h
        rw [hF, insS_app]
        refine RT.set hf he (P ++ [c]) ?_ (Or.inl ⟨rfl, rfl⟩)
        rw [h2, c2, ← h3]
        unfold aheadT
        rw [prV_app]
        by_cases c4 : 0 < V.length
        · simp [c4]
        · have : V = [] := List.length_eq_zero_iff.mp (by omega)
          subst this
          simp [prV]
    · exact absurd hs (by simp)
  rw [if_neg c2] at hs
  by_cases c3 : c = 93
  · rw [if_pos c3] at hs
    split at hs
    · next c4 =>
      have hs := Option.some.inj hs
      subst hs
      refine ⟨f, rfl, ?_⟩
      dsimp only
      rcases h with ⟨h0, h1, h2⟩ | ⟨L, V, y, hF, h | h | h⟩
      · omega
      · omega
      · omega
      · obtain ⟨h0, h2, h3, h4, h5⟩ := h
        rw [hF, insV_app]
        refine RT.set hf he (P ++ [c]) ?_ (Or.inl ⟨rfl, rfl⟩)
        rw [h2, c3, ← h3]
        unfold aheadT
        rw [prL_app, prV_app]
        simp [prV]
    · exact absurd hs (by simp)
  rw [if_neg c3] at hs
  by_cases c4 : c = 94
  · rw [if_pos c4] at hs
    split at hs
    · next c5 =>
      have hs := Option.some.inj hs
      subst hs
      refine ⟨f + 1, by simp, ?_⟩
      dsimp only
      refine ⟨by omega, fun g hg => he g (by omega), Or.inl ⟨rfl, he (f + 1) (by omega), ?_⟩⟩
      show prR F (f + 1) ++ (if 0 < f + 1 then [94] else []) ++ prL 0 (F ((f + 1 : Nat) : Int)) = _
      rw [he (f + 1) (by omega), if_pos (by omega), c4]
      have e : prR F (f + 1) = P := by
        rcases h with ⟨h0, h1, h2⟩ | ⟨L, V, y, hF, h | h | h⟩
        · exact h2
        · omega
        · omega
        · obtain ⟨h0, h2, h3, h4, h5⟩ := h
          rw [prR_last hF, h2, h3]
      rw [e]
      simp [prL]
    · exact absurd hs (by simp)
  · rw [if_neg c4] at hs; exact absurd hs (by simp)
theorem RT.run : ∀ (T P : List Int) (st : Int) (f : Nat) (num ng : Int) (F : rF) (p : Int), RT P st f num ng F → 0 ≤ p → (((rdRun st f num ng F T p).1 = -1000007 ∧ prR (rdRun st f num ng F T p).2 4 = P ++ T) ∨ (0 ≤ (rdRun st f num ng F T p).1 ∧ (rdRun st f num ng F T p).1 ≤ p + T.length)) := by
  intro T
  induction T with
  | nil =>
    intro P st f num ng F p h hp
    show ((if (f : Int) = 3 ∧ (st = 0 ∨ st = 3) then -1000007 else p) = -1000007 ∧ prR F 4 = P ++ []) ∨ (0 ≤ (if (f : Int) = 3 ∧ (st = 0 ∨ st = 3) then -1000007 else p) ∧ (if (f : Int) = 3 ∧ (st = 0 ∨ st = 3) then -1000007 else p) ≤ p + (0 : Nat))
    by_cases c : (f : Int) = 3 ∧ (st = 0 ∨ st = 3)
    · rw [if_pos c]
      refine Or.inl ⟨rfl, ?_⟩
      obtain ⟨hf, he, h⟩ := h
      have e3 : f = 3 := by omega
      subst e3
      rw [List.append_nil]
      rcases h with ⟨h0, h1, h2⟩ | ⟨L, V, y, hF, h | h | h⟩
      · exact h2
      · omega
      · omega
      · obtain ⟨h0, h2, h3, h4, h5⟩ := h
        rw [prR_last hF, h2, h3]
    · rw [if_neg c]
      exact Or.inr ⟨hp, by omega⟩
  | cons c T ih =>
    intro P st f num ng F p h hp
    show ((match rdStep st f num ng F c with | none => (p, F) | some s => rdRun s.1 s.2.1 s.2.2.1 s.2.2.2.1 s.2.2.2.2 T (p + 1)).1 = -1000007 ∧ prR (match rdStep st f num ng F c with | none => (p, F) | some s => rdRun s.1 s.2.1 s.2.2.1 s.2.2.2.1 s.2.2.2.2 T (p + 1)).2 4 = P ++ (c :: T)) ∨ (0 ≤ (match rdStep st f num ng F c with | none => (p, F) | some s => rdRun s.1 s.2.1 s.2.2.1 s.2.2.2.1 s.2.2.2.2 T (p + 1)).1 ∧ (match rdStep st f num ng F c with | none => (p, F) | some s => rdRun s.1 s.2.1 s.2.2.1 s.2.2.2.1 s.2.2.2.2 T (p + 1)).1 ≤ p + ((c :: T).length : Nat))
    cases hs : rdStep st f num ng F c with
    | none =>
      refine Or.inr ⟨hp, ?_⟩
      simp only [List.length_cons]
      omega
    | some s =>
      obtain ⟨f', e, hR⟩ := h.step hs
      have := ih (P ++ [c]) s.1 f' s.2.2.1 s.2.2.2.1 s.2.2.2.2 (p + 1) hR (by omega)
      simp only [e]
      rcases this with ⟨a, b⟩ | ⟨a, b⟩
      · exact Or.inl ⟨a, by rw [b]; simp⟩
      · refine Or.inr ⟨a, ?_⟩
        simp only [List.length_cons]
        omega
theorem rd_ok (T : List Int) : ((rd T).1 = -1000007 ∧ prR (rd T).2 4 = T) ∨ (0 ≤ (rd T).1 ∧ (rd T).1 ≤ T.length) := by
  have := RT.run T [] 0 0 0 0 (fun _ => []) 0 ⟨by decide, fun _ _ => rfl, Or.inl ⟨rfl, rfl, rfl⟩⟩ (by decide)
  rw [Int.zero_add] at this
  exact this
