/-! P42. Floats: a quotient of two ints, the second not 0, is a number; a number is equal to itself -/
theorem f_num (a b : Int) (hb : jR b) (h : ¬ b = 0) : FP.Core.fIsNaN (FP.fdiv (FP.i2f (jI a)) (FP.i2f (jI b))) = false :=
  FP.Core.fdiv_out (FP.Core.i2f_fin _).notNaN (FP.Core.i2f_fin _) (fun z => FP.Core.i2f_ne_zero (v := jI b) (jI_ne hb h) ((FP.Core.zero_bits232 _).mp z))
theorem f_n32 {x : UInt32} (h : FP.Core.fIsNaN x = false) : vf_n32 x := by
  rw [FP.Core.notNaN_iff32, FP.Core.ne_nan32] at h
  unfold vf_n32
  rw [UInt32.le_iff_toNat_le, UInt32.toNat_and, show (0x7fffffff : UInt32).toNat = 2 ^ 31 - 1 from by decide, Nat.and_two_pow_sub_one_eq_mod]
  exact h
theorem f_eq {op : CmpOp} {x : UInt32} (h : FP.Core.fIsNaN x = false) : jFc op x x = 0 := by
  unfold jFc
  have e : FP.fcmp x x = some .eq := FP.Core.fcmp_self ((FP.Core.notNaN_iff32 x).mp h)
  rw [e]
  cases op <;> rfl
theorem f_no : FP.Core.fIsNaN 3388220416 = false := by decide +kernel
theorem f_zero : FP.Core.fIsNaN FP.fconst0 = false := by decide +kernel
theorem jLc_0 {x y : Int64} : jLc x y = 0 ↔ x = y := by
  unfold jLc lg_cmp
  constructor
  · intro h
    by_cases h1 : y < x
    · rw [if_pos h1] at h; exact absurd h (by decide)
    · rw [if_neg h1] at h
      by_cases h2 : x = y
      · exact h2
      · rw [if_neg h2] at h; exact absurd h (by decide)
  · intro h
    subst h
    rw [if_neg (by simp), if_pos rfl]
    decide
theorem jAnd_m (a : Int) : 0 ≤ jAnd a 2147483647 ∧ jAnd a 2147483647 < 2147483648 := by
  have h1 : ((jI a).toBitVec &&& (jI 2147483647).toBitVec).toNat ≤ 2147483647 := by
    rw [BitVec.toNat_and]
    exact Nat.le_trans Nat.and_le_right (Nat.le_of_ble_eq_true rfl)
  have h2 : (jI a &&& jI 2147483647).toInt = (((jI a).toBitVec &&& (jI 2147483647).toBitVec).toNat : Int) := by
    show (jI a &&& jI 2147483647).toBitVec.toInt = _
    rw [Int32.toBitVec_and]
    exact BitVec.toInt_eq_toNat_of_lt (by omega)
  unfold jAnd
  rw [h2]
  omega
theorem low_k {a n : Int} {k : Int → Prop} (h0 : 0 < n) (h1 : n < 2147483648) (H : ∀ v : Int, 0 ≤ v → v < n → k v) : w_L_low a n k := by
  unfold w_L_low
  obtain ⟨a0, a1⟩ := jAnd_m a
  refine ⟨by omega, ?_⟩
  rw [jRem_i a0 a1 h0 h1]
  exact H _ (Int.emod_nonneg _ (by omega)) (Int.emod_lt_of_pos _ h0)
/-! joins by what they hand on; named numbers -/
theorem jL_s {α : Type} {J : α → Prop} {K : (α → Prop) → Prop} (P : α → Prop) (h2 : ∀ j : α → Prop, (∀ v, P v → j v) → K j) (h1 : ∀ v, P v → J v) : jL J K := h2 J h1
theorem jL_s2 {α β : Type} {J : α → β → Prop} {K : (α → β → Prop) → Prop} (P : α → β → Prop) (h2 : ∀ j : α → β → Prop, (∀ v w, P v w → j v w) → K j) (h1 : ∀ v w, P v w → J v w) : jL J K := h2 J h1
theorem jL_s0 {J : Prop} {K : Prop → Prop} (P : Prop) (h2 : ∀ j : Prop, (P → j) → K j) (h1 : P → J) : jL J K := h2 J h1
theorem jL_v {α : Type} {e : α} {k : α → Prop} (H : ∀ x, x = e → k x) : jL e k := H e rfl
theorem jL_w {e : Int} {k : Int → Prop} (h : jR e) (H : ∀ x, x = e → k x) : jL (jW e) k := H _ (jW_id h)
theorem jL_if01 {c : Prop} [Decidable c] {J : Int → Prop} (h1 : ∀ x, x = 1 → c → J x) (h0 : ∀ x, x = 0 → ¬ c → J x) : jL J (fun j => if c then j 1 else j 0) := by
  show if c then J 1 else J 0
  by_cases h : c
  · rw [if_pos h]; exact h1 _ rfl h
  · rw [if_neg h]; exact h0 _ rfl h
/-! what holds of an abstract file that cells hold -/
def aOK (s : aS) : Prop := sOK s ∧ ∀ id ∈ sI s, (0 ≤ id ∧ id < 100) ∧ (sK s id = -1000007 ∨ sUsr (sK s id)) ∧ ∀ f : Int, sFld f → fOK (sF s id f)
theorem XR.aok {M : jM} {a : aA} (hX : XR M a) : aOK (aNow a) := by
  refine ⟨hX.now.ok, fun id hid => ?_⟩
  obtain ⟨i, hi⟩ := List.getElem?_of_mem hid
  obtain ⟨r, -, -, -, -, h1, h2, h3, h4⟩ := hX.rec hi
  exact ⟨hX.now.ok.2.2.1 id hid, h3, fun f hf => h4.ok hf⟩
theorem fL_ok {L : List (List Int)} (h : fOK L) : 0 ≤ fL L ∧ fL L ≤ 5 := by
  have := h.1
  unfold fL
  omega
theorem fV_mem {L : List (List Int)} {v : Int} (h0 : 0 ≤ v) (h1 : v < fL L) : fV L v ∈ L := by
  unfold fL at h1
  have e : L[v.toNat]? = some (fV L v) := by
    unfold fV
    rw [List.getD_eq_getElem?_getD, List.getElem?_eq_getElem (by omega)]
    rfl
  exact List.mem_of_getElem? e
theorem fS_ok {L : List (List Int)} (h : fOK L) {v : Int} (h0 : 0 ≤ v) (h1 : v < fL L) : 1 ≤ fS L v ∧ fS L v ≤ 4 := by
  obtain ⟨a, b, -⟩ := h.2 _ (fV_mem h0 h1)
  unfold fS
  omega
theorem fN_mem {L : List (List Int)} {v w : Int} (w0 : 0 ≤ w) (w1 : w < fS L v) : fN L v w ∈ fV L v := by
  unfold fS at w1
  have e : (fV L v)[w.toNat]? = some (fN L v w) := by
    unfold fN
    rw [List.getD_eq_getElem?_getD, List.getElem?_eq_getElem (by omega)]
    rfl
  exact List.mem_of_getElem? e
theorem fN_ok {L : List (List Int)} (h : fOK L) {v w : Int} (h0 : 0 ≤ v) (h1 : v < fL L) (w0 : 0 ≤ w) (w1 : w < fS L v) : -999 ≤ fN L v w ∧ fN L v w ≤ 999 :=
  (h.2 _ (fV_mem h0 h1)).2.2 _ (fN_mem w0 w1)
theorem sA_ok {s : aS} (h : aOK s) {f : Int} (hf : sFld f) : sA s f = 0 ∨ sA s f = 1 := h.1.2.2.2.1 f hf
theorem sC_ok {s : aS} (h : aOK s) {c : Int} (hc : sCol c) : 0 ≤ sC s c 0 ∧ sC s c 0 ≤ 4 ∧ sFld (sC s c 1) ∧ sFld (sC s c 2) := h.1.2.2.2.2 c hc
theorem nList_ok (s : aS) (l : Int) : 0 ≤ nList s l ∧ nList s l ≤ 100 := by
  unfold nList
  have := List.countP_le_length (p := fun i : Nat => sL s l i) (l := List.range 100)
  rw [List.length_range] at this
  omega
theorem v_records {N : Nat} {M : jM} {a : aA} {k : Int → Prop} (hN : 300 ≤ N) (hX : XR M a) (H : ∀ v : Int, v = ((sI (aNow a)).length : Int) → k v) : w_X6_records M 0  k := xs_records hX (H _ rfl)
theorem v_recordAt {N : Nat} {M : jM} {a : aA} {p : Int} {k : Int → Prop} (hN : 300 ≤ N) (hX : XR M a) (H : ∀ v : Int, v = a_recordAt a p → k v) : w_X6_recordAt M 0 p k := xs_recordAt hX (H _ rfl)
theorem v_locker {N : Nat} {M : jM} {a : aA} {id : Int} {k : Int → Prop} (hN : 300 ≤ N) (hX : XR M a) (H : ∀ v : Int, v = a_locker a id → k v) : w_X6_locker N M 0 id k := xs_locker (by omega) hX (H _ rfl)
theorem v_values {N : Nat} {M : jM} {a : aA} {id f : Int} {k : Int → Prop} (hN : 300 ≤ N) (hX : XR M a) (H : ∀ v : Int, v = a_values a id f → k v) : w_X6_values N M 0 id f k := xs_values (by omega) hX (H _ rfl)
theorem v_subvalues {N : Nat} {M : jM} {a : aA} {id f v1 : Int} {k : Int → Prop} (hN : 300 ≤ N) (hX : XR M a) (H : ∀ v : Int, v = a_subvalues a id f v1 → k v) : w_X6_subvalues N M 0 id f v1 k := xs_subvalues (by omega) hX (H _ rfl)
theorem v_get {N : Nat} {M : jM} {a : aA} {id f v1 w1 : Int} {k : Int → Prop} (hN : 300 ≤ N) (hX : XR M a) (H : ∀ v : Int, v = a_get a id f v1 w1 → k v) : w_X6_get N M 0 id f v1 w1 k := xs_get (by omega) hX (H _ rfl)
theorem v_lines {N : Nat} {M : jM} {a : aA} {id : Int} {k : Int → Prop} (hN : 300 ≤ N) (hX : XR M a) (H : ∀ v : Int, v = a_lines a id → k v) : w_X6_lines N M 0 id k := xs_lines (by omega) hX (H _ rfl)
theorem v_locate {N : Nat} {M : jM} {a : aA} {id f x1 : Int} {k : Int → Prop} (hN : 300 ≤ N) (hX : XR M a) (H : ∀ v : Int, v = a_locate a id f x1 → k v) : w_X6_locate N M 0 id f x1 k := xs_locate (by omega) hX (H _ rfl)
theorem v_column {N : Nat} {M : jM} {a : aA} {c w1 : Int} {k : Int → Prop} (hN : 300 ≤ N) (hX : XR M a) (H : ∀ v : Int, v = a_column a c w1 → k v) : w_X6_column M 0 c w1 k := xs_column hX (H _ rfl)
theorem v_associated {N : Nat} {M : jM} {a : aA} {f : Int} {k : Int → Prop} (hN : 300 ≤ N) (hX : XR M a) (H : ∀ v : Int, v = a_associated a f → k v) : w_X6_associated M 0 f k := xs_associated hX (H _ rfl)
theorem v_listSize {N : Nat} {M : jM} {a : aA} {l : Int} {k : Int → Prop} (hN : 300 ≤ N) (hX : XR M a) (H : ∀ v : Int, v = a_listSize a l → k v) : w_X6_listSize N M 0 l k := xs_listSize (by omega) hX (H _ rfl)
theorem v_listAt {N : Nat} {M : jM} {a : aA} {l i : Int} {k : Int → Prop} (hN : 300 ≤ N) (hX : XR M a) (H : ∀ v : Int, v = a_listAt a l i → k v) : w_X6_listAt N M 0 l i k := xs_listAt (by omega) hX (H _ rfl)
theorem v_numbers {N : Nat} {M : jM} {a : aA} {id c : Int} {k : Int → jM → Prop} (hN : 300 ≤ N) (hX : XR M a) (H : ∀ (v : Int) (M' : jM), v = a_numbers a id c → XR M' a → k v M') : w_X6_numbers N M 0 id c k := xs_numbers (by omega) hX (fun M' _ hX' => H _ M' rfl hX')
theorem v_numberAt {N : Nat} {M : jM} {a : aA} {id c p : Int} {k : Int → jM → Prop} (hN : 300 ≤ N) (hX : XR M a) (H : ∀ (v : Int) (M' : jM), v = a_numberAt a id c p → XR M' a → k v M') : w_X6_numberAt N M 0 id c p k := xs_numberAt (by omega) hX (fun M' _ hX' => H _ M' rfl hX')
theorem v_exploded {N : Nat} {M : jM} {a : aA} {c : Int} {k : Int → jM → Prop} (hN : 300 ≤ N) (hX : XR M a) (H : ∀ (v : Int) (M' : jM), v = a_exploded a c → XR M' a → k v M') : w_X6_exploded N M 0 c k := xs_exploded (by omega) hX (fun M' _ hX' => H _ M' rfl hX')
theorem v_explodedAt {N : Nat} {M : jM} {a : aA} {c d i p : Int} {k : Int → jM → Prop} (hN : 300 ≤ N) (hX : XR M a) (H : ∀ (v : Int) (M' : jM), v = a_explodedAt a c d i p → XR M' a → k v M') : w_X6_explodedAt N M 0 c d i p k := xs_explodedAt (by omega) hX (fun M' _ hX' => H _ M' rfl hX')
theorem v_total {N : Nat} {M : jM} {a : aA} {c l : Int} {k : Int → jM → Prop} (hN : 300 ≤ N) (hX : XR M a) (H : ∀ (v : Int) (M' : jM), v = a_total a c l → XR M' a → k v M') : w_X6_total N M 0 c l k := xs_total (by omega) hX (fun M' _ hX' => H _ M' rfl hX')
theorem v_repeated {N : Nat} {M : jM} {a : aA} {c : Int} {k : Int → jM → Prop} (hN : 300 ≤ N) (hX : XR M a) (H : ∀ (v : Int) (M' : jM), v = a_repeated a c → XR M' a → k v M') : w_X6_repeated N M 0 c k := xs_repeated (by omega) hX (fun M' _ hX' => H _ M' rfl hX')
theorem v_fault {N : Nat} {M : jM} {a : aA} {k : Int → jM → Prop} (hN : 300 ≤ N) (hX : XR M a) (H : ∀ (v : Int) (M' : jM), v = a_fault a  → XR M' a → k v M') : w_X6_fault N M 0  k := xs_fault (by omega) hX (fun M' _ hX' => H _ M' rfl hX')
theorem v_create {N : Nat} {M : jM} {a : aA} {id : Int} {k : Int → jM → Prop} (hN : 300 ≤ N) (hX : XR M a) (H : ∀ (v : Int) (M' : jM), v = (a_create a id).1 → XR M' (a_create a id).2 → k v M') : w_X6_create N M 0 id k := xs_create (by omega) hX (fun M' _ hX' => H _ M' rfl hX')
theorem v_delete {N : Nat} {M : jM} {a : aA} {u id : Int} {k : Int → jM → Prop} (hN : 300 ≤ N) (hX : XR M a) (H : ∀ (v : Int) (M' : jM), v = (a_delete a u id).1 → XR M' (a_delete a u id).2 → k v M') : w_X6_delete N M 0 u id k := xs_delete (by omega) hX (fun M' _ hX' => H _ M' rfl hX')
theorem v_lock {N : Nat} {M : jM} {a : aA} {u id : Int} {k : Int → jM → Prop} (hN : 300 ≤ N) (hX : XR M a) (H : ∀ (v : Int) (M' : jM), v = (a_lock a u id).1 → XR M' (a_lock a u id).2 → k v M') : w_X6_lock N M 0 u id k := xs_lock (by omega) hX (fun M' _ hX' => H _ M' rfl hX')
theorem v_unlock {N : Nat} {M : jM} {a : aA} {u id : Int} {k : Int → jM → Prop} (hN : 300 ≤ N) (hX : XR M a) (H : ∀ (v : Int) (M' : jM), v = (a_unlock a u id).1 → XR M' (a_unlock a u id).2 → k v M') : w_X6_unlock N M 0 u id k := xs_unlock (by omega) hX (fun M' _ hX' => H _ M' rfl hX')
theorem v_insert {N : Nat} {M : jM} {a : aA} {u id f v1 w1 x1 : Int} {k : Int → jM → Prop} (hN : 300 ≤ N) (hX : XR M a) (H : ∀ (v : Int) (M' : jM), v = (a_insert a u id f v1 w1 x1).1 → XR M' (a_insert a u id f v1 w1 x1).2 → k v M') : w_X6_insert N M 0 u id f v1 w1 x1 k := xs_insert (by omega) hX (fun M' _ hX' => H _ M' rfl hX')
theorem v_change {N : Nat} {M : jM} {a : aA} {u id f v1 w1 x1 : Int} {k : Int → jM → Prop} (hN : 300 ≤ N) (hX : XR M a) (H : ∀ (v : Int) (M' : jM), v = (a_change a u id f v1 w1 x1).1 → XR M' (a_change a u id f v1 w1 x1).2 → k v M') : w_X6_change N M 0 u id f v1 w1 x1 k := xs_change (by omega) hX (fun M' _ hX' => H _ M' rfl hX')
theorem v_remove {N : Nat} {M : jM} {a : aA} {u id f v1 w1 : Int} {k : Int → jM → Prop} (hN : 300 ≤ N) (hX : XR M a) (H : ∀ (v : Int) (M' : jM), v = (a_remove a u id f v1 w1).1 → XR M' (a_remove a u id f v1 w1).2 → k v M') : w_X6_remove N M 0 u id f v1 w1 k := xs_remove (by omega) hX (fun M' _ hX' => H _ M' rfl hX')
theorem v_removeLine {N : Nat} {M : jM} {a : aA} {u id p : Int} {k : Int → jM → Prop} (hN : 300 ≤ N) (hX : XR M a) (H : ∀ (v : Int) (M' : jM), v = (a_removeLine a u id p).1 → XR M' (a_removeLine a u id p).2 → k v M') : w_X6_removeLine N M 0 u id p k := xs_removeLine (by omega) hX (fun M' _ hX' => H _ M' rfl hX')
theorem v_load {N : Nat} {M : jM} {a : aA} {u id : Int} {k : Int → jM → Prop} (hN : 300 ≤ N) (hX : XR M a) (H : ∀ (v : Int) (M' : jM), v = (a_load a u id).1 → XR M' (a_load a u id).2 → k v M') : w_X6_load N M 0 u id k := xs_load (by omega) hX (fun M' _ hX' => H _ M' rfl hX')
theorem v_associate {N : Nat} {M : jM} {a : aA} {f v1 : Int} {k : Int → jM → Prop} (hN : 300 ≤ N) (hX : XR M a) (hv : v1 = 0 ∨ v1 = 1) (H : ∀ (v : Int) (M' : jM), v = (a_associate a f v1).1 → XR M' (a_associate a f v1).2 → k v M') : w_X6_associate N M 0 f v1 k := xs_associate (by omega) hX hv (fun M' _ hX' => H _ M' rfl hX')
theorem v_define {N : Nat} {M : jM} {a : aA} {c x1 f g : Int} {k : Int → jM → Prop} (hN : 300 ≤ N) (hX : XR M a) (H : ∀ (v : Int) (M' : jM), v = (a_define a c x1 f g).1 → XR M' (a_define a c x1 f g).2 → k v M') : w_X6_define N M 0 c x1 f g k := xs_define (by omega) hX (fun M' _ hX' => H _ M' rfl hX')
theorem v_select {N : Nat} {M : jM} {a : aA} {c t x1 e l : Int} {k : Int → jM → Prop} (hN : 300 ≤ N) (hX : XR M a) (H : ∀ (v : Int) (M' : jM), v = (a_select a c t x1 e l).1 → XR M' (a_select a c t x1 e l).2 → k v M') : w_X6_select N M 0 c t x1 e l k := xs_select (by omega) hX (fun M' _ hX' => H _ M' rfl hX')
theorem v_combine {N : Nat} {M : jM} {a : aA} {h f g l : Int} {k : Int → jM → Prop} (hN : 300 ≤ N) (hX : XR M a) (H : ∀ (v : Int) (M' : jM), v = (a_combine a h f g l).1 → XR M' (a_combine a h f g l).2 → k v M') : w_X6_combine N M 0 h f g l k := xs_combine (by omega) hX (fun M' _ hX' => H _ M' rfl hX')
theorem v_clearList {N : Nat} {M : jM} {a : aA} {l : Int} {k : Int → jM → Prop} (hN : 300 ≤ N) (hX : XR M a) (H : ∀ (v : Int) (M' : jM), v = (a_clearList a l).1 → XR M' (a_clearList a l).2 → k v M') : w_X6_clearList N M 0 l k := xs_clearList (by omega) hX (fun M' _ hX' => H _ M' rfl hX')
theorem v_append {N : Nat} {M : jM} {a : aA} {c : Int} {k : Int → jM → Prop} (hN : 300 ≤ N) (hX : XR M a) (H : ∀ (v : Int) (M' : jM), v = (a_append a c).1 → XR M' (a_append a c).2 → k v M') : w_X6_append M 0 c k := xs_append hX (fun M' _ hX' => H _ M' rfl hX')
theorem v_clearText {N : Nat} {M : jM} {a : aA} {k : Int → jM → Prop} (hN : 300 ≤ N) (hX : XR M a) (H : ∀ (v : Int) (M' : jM), v = (a_clearText a ).1 → XR M' (a_clearText a ).2 → k v M') : w_X6_clearText M 0  k := xs_clearText hX (fun M' _ hX' => H _ M' rfl hX')
theorem v_print {N : Nat} {M : jM} {a : aA} {id : Int} {k : Int → jM → Prop} (hN : 300 ≤ N) (hX : XR M a) (H : ∀ (v : Int) (M' : jM), v = (a_print a id).1 → XR M' (a_print a id).2 → k v M') : w_X6_print N M 0 id k := xs_print (by omega) hX (fun M' _ hX' => H _ M' rfl hX')
theorem v_undo {N : Nat} {M : jM} {a : aA} {k : Int → jM → Prop} (hN : 300 ≤ N) (hX : XR M a) (H : ∀ (v : Int) (M' : jM), v = (a_undo a ).1 → XR M' (a_undo a ).2 → k v M') : w_X6_undo N M 0  k := undo_k (by omega) hX (fun M' _ hX' => H _ M' rfl hX')
