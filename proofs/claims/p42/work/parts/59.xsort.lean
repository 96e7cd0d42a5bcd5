/-! THE EXPLODED LIST: entries (number, id, place), their order -/
abbrev eE : Type := Int × Int × Int
abbrev aheadP (d : Int) (a b : eE) : Prop := (if d = 0 then a.1 < b.1 else b.1 < a.1) ∨ (a.1 = b.1 ∧ (a.2.1 < b.2.1 ∨ (a.2.1 = b.2.1 ∧ a.2.2 < b.2.2)))
def aheadB (d : Int) (a b : eE) : Bool := decide (a.1 = b.1 ∧ (a.2.1 < b.2.1 ∨ (a.2.1 = b.2.1 ∧ a.2.2 < b.2.2))) || (if d = 0 then decide (a.1 < b.1) else decide (b.1 < a.1))
theorem aheadB_iff {d : Int} {a b : eE} : aheadB d a b = true ↔ aheadP d a b := by
  unfold aheadB aheadP
  by_cases h : d = 0 <;> simp [h] <;> omega
theorem ahead_asymm {d : Int} {a b : eE} (h : aheadP d a b) : ¬ aheadP d b a := by
  unfold aheadP at *
  by_cases z : d = 0
  · rw [if_pos z] at *
    omega
  · rw [if_neg z] at *
    omega
theorem ahead_irrefl {d : Int} {a : eE} : ¬ aheadP d a a := fun h => ahead_asymm h h
def entF (id : Int) : Int → List Int → List eE
  | _, [] => []
  | k, x :: B => (x, id, k) :: entF id (k + 1) B
theorem entF_len {id : Int} {B : List Int} : ∀ {k : Int}, (entF id k B).length = B.length := by
  induction B with
  | nil => intro k; rfl
  | cons x B ih => intro k; simp [entF, ih]
theorem entF_fst {id : Int} {B : List Int} : ∀ {k : Int}, (entF id k B).map (fun e => e.1) = B := by
  induction B with
  | nil => intro k; rfl
  | cons x B ih => intro k; simp [entF, ih]
theorem entF_id {id : Int} {B : List Int} : ∀ {k : Int}, ∀ e ∈ entF id k B, e.2.1 = id := by
  induction B with
  | nil => intro k e h; simp [entF] at h
  | cons x B ih =>
    intro k e h
    rcases List.mem_cons.mp h with h | h
    · rw [h]
    · exact ih e h
def allE (s : aS) (c : Int) : List eE := (sI s).flatMap (fun id => entF id 0 (colS s id c))
theorem allE_fst {s : aS} {c : Int} : (allE s c).map (fun e => e.1) = allX s c := by
  unfold allE allX
  rw [List.map_flatMap]
  simp only [entF_fst]
def exAt (A : List eE) (d i p : Int) : Int := match A.find? (fun e => decide (((A.countP (fun b => aheadB d b e) : Nat) : Int) = i)) with
  | none => -1000007
  | some e => if p = 0 then e.1 else if p = 1 then e.2.1 else e.2.2
theorem rank_at {d : Int} {E : List eE} (h : E.Pairwise (aheadP d)) {i : Nat} {e : eE} (hi : E[i]? = some e) : E.countP (fun b => aheadB d b e) = i := by
  have hl : i < E.length := (List.getElem?_eq_some_iff.mp hi).1
  have hs : E = E.take i ++ e :: E.drop (i + 1) := by
    have q := List.take_append_drop i E
    have q2 : E.drop i = e :: E.drop (i + 1) := by
      obtain ⟨h1, h2⟩ := List.getElem?_eq_some_iff.mp hi
      rw [List.drop_eq_getElem_cons h1, h2]
    rw [q2] at q
    exact q.symm
  have hp := h
  rw [hs] at hp
  obtain ⟨p1, p2, p3⟩ := List.pairwise_append.mp hp
  conv => lhs; rw [hs]
  rw [List.countP_append, List.countP_cons]
  have c1 : (E.take i).countP (fun b => aheadB d b e) = i := by
    have := List.countP_eq_length (p := fun b => aheadB d b e) (l := E.take i)
    rw [this.mpr (fun b hb => aheadB_iff.mpr (p3 b hb e (by simp)))]
    rw [List.length_take]
    omega
  have c2 : (E.drop (i + 1)).countP (fun b => aheadB d b e) = 0 := by
    rw [List.countP_eq_zero]
    intro b hb z
    exact ahead_asymm ((List.pairwise_cons.mp p2).1 b hb) (aheadB_iff.mp z)
  have c3 : ¬ aheadB d e e = true := fun z => ahead_irrefl (aheadB_iff.mp z)
  rw [c1, c2, if_neg c3]
  omega
theorem exAt_at {d p : Int} {E A : List eE} (h : E.Pairwise (aheadP d)) (hp : E.Perm A) {i : Nat} {e : eE} (hi : E[i]? = some e) : exAt A d i p = if p = 0 then e.1 else if p = 1 then e.2.1 else e.2.2 := by
  unfold exAt
  have hc : ∀ b : eE, A.countP (fun x => aheadB d x b) = E.countP (fun x => aheadB d x b) := fun b => (hp.countP_eq _).symm
  cases hf : A.find? (fun e => decide (((A.countP (fun b => aheadB d b e) : Nat) : Int) = i)) with
  | none =>
    have := List.find?_eq_none.mp hf e (hp.mem_iff.mp (List.mem_of_getElem? hi))
    rw [hc, rank_at h hi] at this
    simp at this
  | some b =>
    have h1 := List.find?_some hf
    have h2 := List.mem_of_find?_eq_some hf
    obtain ⟨j, hj⟩ := List.getElem?_of_mem (hp.mem_iff.mpr h2)
    rw [hc, rank_at h hj] at h1
    have q : (j : Int) = i := by simpa using h1
    have : j = i := by omega
    subst this
    rw [hi] at hj
    have : e = b := Option.some.inj hj
    rw [this]
theorem exAt_none {d i p : Int} {E A : List eE} (h : E.Pairwise (aheadP d)) (hp : E.Perm A) (hi : (E.length : Int) ≤ i) : exAt A d i p = -1000007 := by
  unfold exAt
  have hc : ∀ b : eE, A.countP (fun x => aheadB d x b) = E.countP (fun x => aheadB d x b) := fun b => (hp.countP_eq _).symm
  cases hf : A.find? (fun e => decide (((A.countP (fun b => aheadB d b e) : Nat) : Int) = i)) with
  | none => rfl
  | some b =>
    have h1 := List.find?_some hf
    have h2 := List.mem_of_find?_eq_some hf
    obtain ⟨j, hj⟩ := List.getElem?_of_mem (hp.mem_iff.mpr h2)
    have hl : j < E.length := (List.getElem?_eq_some_iff.mp hj).1
    rw [hc, rank_at h hj] at h1
    have : (j : Int) = i := by simpa using h1
    omega
/-- how many numbers occur more than once -/
def repN : List Int → Nat
  | [] => 0
  | x :: X => (if X.count x = 1 then 1 else 0) + repN X
theorem repN_perm {X Y : List Int} (h : X.Perm Y) : repN X = repN Y := by
  induction h with
  | nil => rfl
  | cons x h ih => simp only [repN]; rw [ih, h.count_eq]
  | swap x y l =>
    simp only [repN, List.count_cons]
    by_cases e : x = y
    · subst e
      simp
    · have e2 : (x == y) = false := by simp [e]
      have e3 : (y == x) = false := by simp [Ne.symm e]
      rw [e2, e3]
      simp
      omega
  | trans h1 h2 a b => exact a.trans b
def a_explodedAt (a : aA) (c d i p : Int) : Int := if ¬ sCol c then -1000001 else if i < 0 ∨ ¬ (0 ≤ p ∧ p ≤ 2) then -1000002 else exAt (allE (aNow a) c) d i p
def a_repeated (a : aA) (c : Int) : Int := if ¬ sCol c then -1000001 else (repN (allX (aNow a) c) : Nat)
/-- the exploded list so far -/
def XE (M : jM) (d : Int) (E : List eE) : Prop := M 248 3 = E.length ∧ M 248 4 = d ∧ ∀ (i : Nat) (e : eE), E[i]? = some e → M 249 i = e.1 ∧ M 250 i = e.2.1 ∧ M 251 i = e.2.2
def exU (M : jM) (p m : Int) : jM := fun c i => if 249 ≤ c ∧ c ≤ 251 ∧ p < i ∧ i ≤ m then M c (i - 1) else M c i
def exP (M : jM) (i : Int) (e : eE) : jM := jU (jU (jU M 249 i e.1) 250 i e.2.1) 251 i e.2.2
theorem exPut_eq {M : jM} {i x y z : Int} (h : 0 ≤ i ∧ i < 200) (k : jM → Prop) : w_X0_put M 248 i x y z k = k (exP M i (x, y, z)) := by
  unfold w_X0_put
  simp only [jL, Int.reduceAdd]
  unfold jB
  simp only [h, true_and, exP]
theorem behind_eq {M : jM} {d a b : Int} (h : M 248 4 = d) (k : Int → Prop) : w_X0_isBehind M 248 a b k = k (if (if d = 0 then b < a else a < b) then 1 else 0) := by
  unfold w_X0_isBehind
  rw [h]
  by_cases z : d = 0
  · rw [if_pos z]
    by_cases q : a ≤ b
    · rw [if_pos q, if_neg (by rw [if_pos z]; omega)]
    · rw [if_neg q, if_pos (by rw [if_pos z]; omega)]
  · rw [if_neg z]
    by_cases q : a < b
    · rw [if_pos q, if_pos (by rw [if_neg z]; omega)]
    · rw [if_neg q, if_neg (by rw [if_neg z]; omega)]
