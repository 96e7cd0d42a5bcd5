/-! THE ABSTRACT FILE. A state: ids (ascending), locks and fields by id, associated fields, columns, lists. All: now, history (oldest first), text, printed text. -/
abbrev aS : Type := List Int × (Int → Int) × (Int → Int → List (List Int)) × (Int → Int) × (Int → Int → Int) × (Int → Int → Bool)
abbrev aA : Type := aS × List aS × List Int × List Int
def bI (x : Bool) : Int := if x then 1 else 0
theorem bI_0 (x : Bool) : (bI x = 0) = (x = false) := by cases x <;> simp [bI]
def sI (s : aS) : List Int := s.1
def sK (s : aS) : Int → Int := s.2.1
def sF (s : aS) : Int → Int → List (List Int) := s.2.2.1
def sA (s : aS) : Int → Int := s.2.2.2.1
def sC (s : aS) : Int → Int → Int := s.2.2.2.2.1
def sL (s : aS) : Int → Int → Bool := s.2.2.2.2.2
def uI {α : Type} (g : Int → α) (i : Int) (v : α) : Int → α := fun j => if j = i then v else g j
def hPush (h : List aS) (s : aS) : List aS := (if h.length = 4 then h.drop 1 else h) ++ [s]
def aNow (a : aA) : aS := a.1
def aH (a : aA) : List aS := a.2.1
def aT (a : aA) : List Int := a.2.2.1
def aP (a : aA) : List Int := a.2.2.2
/-- an action that is done: the state before it goes into the history -/
def aDo (a : aA) (s : aS) : aA := (s, hPush (aH a) (aNow a), aT a, aP a)
abbrev sOpen (s : aS) (u id : Int) : Prop := sK s id = -1000007 ∨ sK s id = u
abbrev sUsr (u : Int) : Prop := 0 ≤ u ∧ u < 4
abbrev sFld (f : Int) : Prop := 0 ≤ f ∧ f < 4
abbrev sNum (x : Int) : Prop := -999 ≤ x ∧ x ≤ 999
abbrev sCol (c : Int) : Prop := 0 ≤ c ∧ c < 6
abbrev sLst (l : Int) : Prop := 0 ≤ l ∧ l < 8
/-- the state with another field of a record -/
def setF (s : aS) (id f : Int) (L : List (List Int)) : aS := (sI s, sK s, uI (sF s) id (uI (sF s id) f L), sA s, sC s, sL s)
def setFs (s : aS) (id : Int) (F : Int → List (List Int)) : aS := (sI s, sK s, uI (sF s) id F, sA s, sC s, sL s)
def setK (s : aS) (id u : Int) : aS := (sI s, uI (sK s) id u, sF s, sA s, sC s, sL s)
def nLock (s : aS) (u : Int) : Int := ((sI s).countP (fun j => decide (sK s j = u)) : Nat)
def sAdd (s : aS) (id : Int) : aS := ((sI s).insertIdx ((sI s).findIdx (fun j => decide (id < j))) id, uI (sK s) id (-1000007), uI (sF s) id (fun _ => []), sA s, sC s, sL s)
def sDel (s : aS) (id : Int) : aS := ((sI s).erase id, sK s, sF s, sA s, sC s, sL s)
def a_create (a : aA) (id : Int) : Int × aA :=
  if ¬ (0 ≤ id ∧ id < 100) then (-1000002, a) else if id ∈ sI (aNow a) then (-1000005, a) else if 10 ≤ (sI (aNow a)).length then (-1000004, a)
  else ((sI (aNow a)).length + 1, aDo a (sAdd (aNow a) id))
def a_delete (a : aA) (u id : Int) : Int × aA :=
  if ¬ sUsr u ∨ id ∉ sI (aNow a) then (-1000001, a) else if ¬ sOpen (aNow a) u id then (-1000006, a)
  else ((sI (aNow a)).length - 1, aDo a (sDel (aNow a) id))
def a_lock (a : aA) (u id : Int) : Int × aA :=
  if ¬ sUsr u ∨ id ∉ sI (aNow a) then (-1000001, a) else if ¬ sOpen (aNow a) u id then (-1000006, a)
  else (nLock (setK (aNow a) id u) u, aDo a (setK (aNow a) id u))
def a_unlock (a : aA) (u id : Int) : Int × aA :=
  if ¬ sUsr u ∨ id ∉ sI (aNow a) then (-1000001, a) else if ¬ sOpen (aNow a) u id then (-1000006, a) else if sK (aNow a) id = -1000007 then (-1000005, a)
  else (nLock (setK (aNow a) id (-1000007)) u, aDo a (setK (aNow a) id (-1000007)))
/-- lengths as ints -/
def fL (L : List (List Int)) : Int := (L.length : Nat)
def fS (L : List (List Int)) (v : Int) : Int := ((fV L v).length : Nat)
abbrev sPl (L : List (List Int)) (v w : Int) : Prop := (w = -1 ∧ 0 ≤ v ∧ v ≤ fL L) ∨ (w ≠ -1 ∧ (0 ≤ v ∧ v < fL L) ∧ 0 ≤ w ∧ w ≤ fS L v)
def a_insert (a : aA) (u id f v w x : Int) : Int × aA :=
  if ¬ sUsr u ∨ id ∉ sI (aNow a) ∨ ¬ sFld f then (-1000001, a)
  else if ¬ sPl (sF (aNow a) id f) v w then (-1000001, a)
  else if ¬ sNum x then (-1000002, a) else if ¬ sOpen (aNow a) u id then (-1000006, a)
  else if w = -1 then (if 5 ≤ fL (sF (aNow a) id f) then (-1000004, a) else (fL (sF (aNow a) id f) + 1, aDo a (setF (aNow a) id f (fInsV (sF (aNow a) id f) v x))))
  else if 4 ≤ fS (sF (aNow a) id f) v then (-1000004, a) else (fS (sF (aNow a) id f) v + 1, aDo a (setF (aNow a) id f (fInsS (sF (aNow a) id f) v w x)))
def a_change (a : aA) (u id f v w x : Int) : Int × aA :=
  if ¬ sUsr u ∨ id ∉ sI (aNow a) ∨ ¬ sFld f then (-1000001, a)
  else if ¬ ((0 ≤ v ∧ v < fL (sF (aNow a) id f)) ∧ 0 ≤ w ∧ w < fS (sF (aNow a) id f) v) then (-1000001, a)
  else if ¬ sNum x then (-1000002, a) else if ¬ sOpen (aNow a) u id then (-1000006, a)
  else (fN (sF (aNow a) id f) v w, aDo a (setF (aNow a) id f (fChg (sF (aNow a) id f) v w x)))
def a_remove (a : aA) (u id f v w : Int) : Int × aA :=
  if ¬ sUsr u ∨ id ∉ sI (aNow a) ∨ ¬ sFld f then (-1000001, a)
  else if ¬ ((0 ≤ v ∧ v < fL (sF (aNow a) id f)) ∧ (w = -1 ∨ (0 ≤ w ∧ w < fS (sF (aNow a) id f) v))) then (-1000001, a)
  else if ¬ sOpen (aNow a) u id then (-1000006, a)
  else if w = -1 ∨ fS (sF (aNow a) id f) v = 1 then (fL (sF (aNow a) id f) - 1, aDo a (setF (aNow a) id f (fDelV (sF (aNow a) id f) v)))
  else (fL (sF (aNow a) id f), aDo a (setF (aNow a) id f (fDelS (sF (aNow a) id f) v w)))
/-- whether a field has a value in the line -/
abbrev sHas (s : aS) (id p f : Int) : Prop := sA s f = 1 ∧ 0 ≤ p ∧ p < fL (sF s id f)
def nLine (s : aS) (id p : Int) : Int := (if sHas s id p 0 then 1 else 0) + (if sHas s id p 1 then 1 else 0) + (if sHas s id p 2 then 1 else 0) + (if sHas s id p 3 then 1 else 0)
def a_removeLine (a : aA) (u id p : Int) : Int × aA :=
  if ¬ sUsr u ∨ id ∉ sI (aNow a) then (-1000001, a) else if nLine (aNow a) id p = 0 then (-1000001, a) else if ¬ sOpen (aNow a) u id then (-1000006, a)
  else (nLine (aNow a) id p, aDo a (setFs (aNow a) id (fun f => if 0 ≤ f ∧ f < 4 ∧ sHas (aNow a) id p f then fDelV (sF (aNow a) id f) p else sF (aNow a) id f)))
def setA (s : aS) (f v : Int) : aS := (sI s, sK s, sF s, uI (sA s) f v, sC s, sL s)
def a_associate (a : aA) (f v : Int) : Int × aA :=
  if ¬ sFld f then (-1000001, a) else (sA (setA (aNow a) f v) 0 + sA (setA (aNow a) f v) 1 + sA (setA (aNow a) f v) 2 + sA (setA (aNow a) f v) 3, aDo a (setA (aNow a) f v))
def setC (s : aS) (c k f g : Int) : aS := (sI s, sK s, sF s, sA s, uI (sC s) c (fun w => if w = 0 then k else if w = 1 then f else g), sL s)
def a_define (a : aA) (c k f g : Int) : Int × aA :=
  if ¬ sCol c ∨ ¬ sFld f ∨ ¬ sFld g then (-1000001, a) else if ¬ (0 ≤ k ∧ k ≤ 4) then (-1000002, a)
  else (sC (aNow a) c 0, aDo a (setC (aNow a) c k f g))
def setL (s : aS) (l : Int) (g : Int → Bool) : aS := (sI s, sK s, sF s, sA s, sC s, uI (sL s) l g)
def nList (s : aS) (l : Int) : Int := ((List.range 100).countP (fun i : Nat => sL s l i) : Nat)
def a_combine (a : aA) (h f g l : Int) : Int × aA :=
  if ¬ sLst f ∨ ¬ sLst g ∨ ¬ sLst l then (-1000001, a) else if ¬ (0 ≤ h ∧ h ≤ 2) then (-1000002, a)
  else (nList (setL (aNow a) l (fun i => if h = 0 then sL (aNow a) f i && sL (aNow a) g i else if h = 1 then sL (aNow a) f i || sL (aNow a) g i else sL (aNow a) f i && !sL (aNow a) g i)) l, aDo a (setL (aNow a) l (fun i => if h = 0 then sL (aNow a) f i && sL (aNow a) g i else if h = 1 then sL (aNow a) f i || sL (aNow a) g i else sL (aNow a) f i && !sL (aNow a) g i)))
def a_clearList (a : aA) (l : Int) : Int × aA := if ¬ sLst l then (-1000001, a) else (nList (aNow a) l, aDo a (setL (aNow a) l (fun _ => false)))
def a_append (a : aA) (c : Int) : Int × aA := if ¬ (32 ≤ c ∧ c ≤ 126) then (-1000002, a) else if 90 ≤ (aT a).length then (-1000004, a) else ((aT a).length + 1, (aNow a, aH a, aT a ++ [c], aP a))
def a_clearText (a : aA) : Int × aA := ((aT a).length, (aNow a, aH a, [], aP a))
def a_printed (a : aA) (i : Int) : Int := if i < 0 then -1000002 else if (aP a).length ≤ i then -1000007 else (aP a).getD i.toNat 0
def a_undo (a : aA) : Int × aA := match (aH a).getLast? with
  | none => (-1000007, a)
  | some s => ((aH a).length - 1, (s, (aH a).dropLast, aT a, aP a))
def a_recordAt (a : aA) (i : Int) : Int := if i < 0 then -1000002 else if (sI (aNow a)).length ≤ i then -1000007 else (sI (aNow a)).getD i.toNat 0
def a_locker (a : aA) (id : Int) : Int := if id ∉ sI (aNow a) then -1000001 else sK (aNow a) id
def a_values (a : aA) (id f : Int) : Int := if id ∉ sI (aNow a) ∨ ¬ sFld f then -1000001 else fL (sF (aNow a) id f)
def a_subvalues (a : aA) (id f v : Int) : Int := if id ∉ sI (aNow a) ∨ ¬ sFld f then -1000001 else if ¬ (0 ≤ v ∧ v < fL (sF (aNow a) id f)) then -1000001 else fS (sF (aNow a) id f) v
def a_get (a : aA) (id f v w : Int) : Int := if id ∉ sI (aNow a) ∨ ¬ sFld f then -1000001 else if ¬ ((0 ≤ v ∧ v < fL (sF (aNow a) id f)) ∧ 0 ≤ w ∧ w < fS (sF (aNow a) id f) v) then -1000001 else fN (sF (aNow a) id f) v w
/-- the length of field f where it is associated -/
def lineL (s : aS) (id f : Int) : Int := if sA s f = 1 then fL (sF s id f) else 0
def nLines (s : aS) (id : Int) : Int := max (max (max (lineL s id 0) (lineL s id 1)) (lineL s id 2)) (lineL s id 3)
def a_lines (a : aA) (id : Int) : Int := if id ∉ sI (aNow a) then -1000001 else nLines (aNow a) id
def locV (x : Int) : List Int → Int → Int
  | [], _ => -1000007
  | y :: V, k => if y = x then k else locV x V (k + 1)
def locF (x : Int) : List (List Int) → Int → Int
  | [], _ => -1000007
  | V :: L, v => if locV x V 0 = -1000007 then locF x L (v + 1) else 10 * v + locV x V 0
def a_locate (a : aA) (id f x : Int) : Int := if id ∉ sI (aNow a) ∨ ¬ sFld f then -1000001 else if ¬ sNum x then -1000002 else locF x (sF (aNow a) id f) 0
def a_column (a : aA) (c w : Int) : Int := if ¬ sCol c then -1000001 else if 0 ≤ w ∧ w ≤ 2 then sC (aNow a) c w else -1000002
def a_associated (a : aA) (f : Int) : Int := if ¬ sFld f then -1000001 else sA (aNow a) f
def a_listSize (a : aA) (l : Int) : Int := if ¬ sLst l then -1000001 else nList (aNow a) l
def a_listAt (a : aA) (l i : Int) : Int := if ¬ sLst l then -1000001 else if i < 0 then -1000002 else (((List.range 100).filter (fun j : Nat => sL (aNow a) l j))[i.toNat]?).elim (-1000007) (fun j => (j : Int))
/-! HOW THE CELLS HOLD IT. The class: -/
def RF (M : jM) (r : Int) (F : Int → List (List Int)) : Prop := ∀ f : Int, 0 ≤ f → f < 4 → FR (F f) (M (r + 1) f) (fun v => M (r + 2) (5 * f + v)) (fun v k => M (r + 3) (20 * f + 4 * v + k))
def RX (M : jM) (r id k : Int) (F : Int → List (List Int)) : Prop := M r 0 = id ∧ M r 1 = k ∧ (k = -1000007 ∨ sUsr k) ∧ RF M r F
/-- what both sides hold alike -/
def sOK (s : aS) : Prop := (sI s).length ≤ 10 ∧ (sI s).Pairwise (· < ·) ∧ (∀ id ∈ sI s, 0 ≤ id ∧ id < 100) ∧ (∀ f : Int, sFld f → sA s f = 0 ∨ sA s f = 1) ∧ (∀ c : Int, sCol c → 0 ≤ sC s c 0 ∧ sC s c 0 ≤ 4 ∧ sFld (sC s c 1) ∧ sFld (sC s c 2))
def XS (M : jM) (b : Int) (s : aS) : Prop :=
  sOK s ∧ M b 1 = (sI s).length ∧
  (∀ i : Int, 0 ≤ i → i < 10 → ∃ q : Int, 0 ≤ q ∧ q < 10 ∧ M (b + 1) i = b + 2 + 4 * q) ∧ (∀ i j : Int, 0 ≤ i → i < 10 → 0 ≤ j → j < 10 → M (b + 1) i = M (b + 1) j → i = j) ∧
  (∀ (i : Nat) (id : Int), (sI s)[i]? = some id → RX M (M (b + 1) i) id (sK s id) (sF s id)) ∧
  (∀ f : Int, sFld f → M (b + 42) f = sA s f) ∧
  (∀ c : Int, sCol c → M (b + 43) c = sC s c 0 ∧ M (b + 44) c = sC s c 1 ∧ M (b + 45) c = sC s c 2) ∧
  (∀ l i : Int, sLst l → 0 ≤ i → i < 100 → M (b + 46) (100 * l + i) = bI (sL s l i))
def XR (M : jM) (a : aA) : Prop :=
  XS M 1 (aNow a) ∧
  M 0 2 = (aH a).length ∧ (aH a).length ≤ 4 ∧ (∀ i : Int, 0 ≤ i → i < 4 → ∃ q : Int, 0 ≤ q ∧ q < 4 ∧ M 48 i = 49 + 47 * q) ∧ (∀ i j : Int, 0 ≤ i → i < 4 → 0 ≤ j → j < 4 → M 48 i = M 48 j → i = j) ∧
  (∀ i : Int, 0 ≤ i → i < 4 → ∀ j : Int, 0 ≤ j → j < 10 → ∃ q : Int, 0 ≤ q ∧ q < 10 ∧ M (M 48 i + 1) j = M 48 i + 2 + 4 * q) ∧ (∀ i : Int, 0 ≤ i → i < 4 → ∀ j k : Int, 0 ≤ j → j < 10 → 0 ≤ k → k < 10 → M (M 48 i + 1) j = M (M 48 i + 1) k → j = k) ∧
  (∀ (i : Nat) (s : aS), (aH a)[i]? = some s → XS M (M 48 i) s) ∧
  M 237 1 = (aT a).length ∧ (aT a).length ≤ 90 ∧ (∀ (i : Nat) (x : Int), (aT a)[i]? = some x → M 238 i = x ∧ 32 ≤ x ∧ x ≤ 126) ∧
  M 239 1 = (aP a).length ∧ (aP a).length ≤ 400 ∧ (∀ (i : Nat) (x : Int), (aP a)[i]? = some x → M 240 i = x)
/-! The reference: a block of 1115 places behind o in cell c -/
def RM (M : jM) (c o id k : Int) (F : Int → List (List Int)) : Prop := M c o = id ∧ M c (o + 1) = (if k = -1000007 then 0 else k + 1) ∧ (k = -1000007 ∨ sUsr k) ∧
  ∀ f : Int, 0 ≤ f → f < 4 → FR (F f) (M c (o + 2 + f)) (fun v => M c (o + 6 + 5 * f + v)) (fun v k => M c (o + 26 + 20 * f + 4 * v + k))
def MS (M : jM) (c o : Int) (s : aS) : Prop :=
  sOK s ∧ M c o = (sI s).length ∧
  (∃ O : List Int, O.Perm (sI s) ∧ ∀ (i : Nat) (id : Int), O[i]? = some id → RM M c (o + 55 + 106 * i) id (sK s id) (sF s id)) ∧
  (∀ f : Int, sFld f → M c (o + 1 + f) = sA s f) ∧
  (∀ q : Int, sCol q → M c (o + 5 + 3 * q) = sC s q 0 ∧ M c (o + 6 + 3 * q) = sC s q 1 ∧ M c (o + 7 + 3 * q) = sC s q 2) ∧
  (∀ l w : Int, sLst l → 0 ≤ w → w < 4 → ∃ n : Nat, M c (o + 23 + 4 * l + w) = n ∧ n < 2 ^ 30 ∧ ∀ i : Nat, i < 30 → 30 * w + i < 100 → n.testBit i = sL s l (30 * w + i))
def MR (M : jM) (a : aA) : Prop :=
  MS M 253 0 (aNow a) ∧
  M 252 3 = (aH a).length ∧ (aH a).length ≤ 4 ∧ (∀ (i : Nat) (s : aS), (aH a)[i]? = some s → MS M 255 (1115 * i) s) ∧
  M 252 5 = (aT a).length ∧ (aT a).length ≤ 90 ∧ (∀ (i : Nat) (x : Int), (aT a)[i]? = some x → M 256 i = x ∧ 32 ≤ x ∧ x ≤ 126) ∧
  M 252 7 = (aP a).length ∧ (aP a).length ≤ 400 ∧ (∀ (i : Nat) (x : Int), (aP a)[i]? = some x → M 257 i = x)
/-- what stays: the reference's cells; the class's cells -/
abbrev frX (M M' : jM) : Prop := ∀ c : Int, 252 ≤ c → M' c = M c
abbrev frM (M M' : jM) : Prop := ∀ c : Int, c < 252 → M' c = M c
