/-! counts, lists and columns of a state -/
theorem take_countP {P : Int → Bool} {I : List Int} {p : Nat} {x : Int} (h : I[p]? = some x) : (I.take (p + 1)).countP P = (I.take p).countP P + (if P x then 1 else 0) := by
  rw [List.take_add_one, h, List.countP_append]
  simp [List.countP_singleton]
theorem lockCount_lp {M : jM} {b u : Int} {s : aS} {kx : Int → Prop} (hS : XS M b s) (h : kx (nLock s u)) : ∀ (d n p : Nat), d < n → p + d = (sI s).length → lp_X4_lockCount_4 b u M kx n (((sI s).take p).countP (fun j => decide (sK s j = u)) : Nat) p := by
  intro d
  induction d with
  | zero =>
    intro n p hn hp
    obtain ⟨n, rfl⟩ : ∃ m, n = m + 1 := ⟨n - 1, by omega⟩
    rw [lp_X4_lockCount_4, hS.cnt.1, if_neg (by omega), List.take_of_length_le (by omega)]
    exact h
  | succ d ih =>
    intro n p hn hp
    obtain ⟨n, rfl⟩ : ∃ m, n = m + 1 := ⟨n - 1, by omega⟩
    have hc := hS.cnt
    obtain ⟨x, hx⟩ : ∃ x, (sI s)[p]? = some x := ⟨_, List.getElem?_eq_getElem (by omega)⟩
    have hle : ((sI s).take p).countP (fun j => decide (sK s j = u)) ≤ p := Nat.le_trans List.countP_le_length (by simp; omega)
    rw [lp_X4_lockCount_4, hc.1, if_pos (by omega), (hS.rec hx).2.1]
    have ih := ih n (p + 1) (by omega) (by omega)
    rw [take_countP hx] at ih
    simp (disch := omega) only [jL, jW_id]
    refine ⟨by omega, ?_⟩
    by_cases z : sK s x = u
    · rw [if_pos z]
      simpa [z] using ih
    · rw [if_neg z]
      simpa [z] using ih
theorem lockCount_k {N : Nat} {M : jM} {b u : Int} {s : aS} {k : Int → Prop} (hN : 100 ≤ N) (hS : XS M b s) (h : k (nLock s u)) : w_X4_lockCount N M b u k := by
  have hc := hS.cnt
  exact lockCount_lp hS h (sI s).length N 0 (by omega) (by omega)
theorem XS.ass {M : jM} {b f : Int} {s : aS} (h : XS M b s) (hf : sFld f) : M (b + 42) f = sA s f ∧ (sA s f = 0 ∨ sA s f = 1) := ⟨h.2.2.2.2.2.1 f hf, h.1.2.2.2.1 f hf⟩
theorem XS.col {M : jM} {b c : Int} {s : aS} (h : XS M b s) (hc : sCol c) : M (b + 43) c = sC s c 0 ∧ M (b + 44) c = sC s c 1 ∧ M (b + 45) c = sC s c 2 := h.2.2.2.2.2.2.1 c hc
theorem XS.lst {M : jM} {b l i : Int} {s : aS} (h : XS M b s) (hl : sLst l) (h0 : 0 ≤ i) (h1 : i < 100) : M (b + 46) (100 * l + i) = bI (sL s l i) := h.2.2.2.2.2.2.2 l i hl h0 h1
def asum (s : aS) : Nat → Int
  | 0 => 0
  | p + 1 => asum s p + sA s p
theorem associatedCount_lp {M : jM} {b : Int} {s : aS} {kx : Int → Prop} (hS : XS M b s) (h : kx (asum s 4)) : ∀ (d n p : Nat), d < n → p + d = 4 → 0 ≤ asum s p ∧ asum s p ≤ p → lp_X4_associatedCount_4 b M kx n (asum s p) p := by
  intro d
  induction d with
  | zero =>
    intro n p hn hp hb
    obtain ⟨n, rfl⟩ : ∃ m, n = m + 1 := ⟨n - 1, by omega⟩
    have : p = 4 := by omega
    subst this
    rw [lp_X4_associatedCount_4, if_neg (by omega)]
    exact h
  | succ d ih =>
    intro n p hn hp hb
    obtain ⟨n, rfl⟩ : ∃ m, n = m + 1 := ⟨n - 1, by omega⟩
    have ha := hS.ass (f := (p : Int)) (by omega)
    rw [lp_X4_associatedCount_4, if_pos (by omega), ha.1]
    simp (disch := omega) only [jL, jW_id]
    have e : asum s (p + 1) = asum s p + sA s p := rfl
    have ih := ih n (p + 1) (by omega) (by omega) (by omega)
    refine ⟨by omega, ?_⟩
    rcases ha.2 with z | z
    · rw [if_pos z]
      rw [e, z, Int.add_zero] at ih
      exact ih
    · rw [if_neg (by omega)]
      rw [e, z] at ih
      exact ih
theorem associatedCount_k {N : Nat} {M : jM} {b : Int} {s : aS} {k : Int → Prop} (hN : 100 ≤ N) (hS : XS M b s) (h : k (sA s 0 + sA s 1 + sA s 2 + sA s 3)) : w_X4_associatedCount N M b k := by
  have e : asum s 4 = sA s 0 + sA s 1 + sA s 2 + sA s 3 := by
    show 0 + sA s 0 + sA s 1 + sA s 2 + sA s 3 = _
    omega
  unfold w_X4_associatedCount
  exact associatedCount_lp hS (by rw [e]; exact h) 4 N 0 (by omega) (by omega) (by simp [asum])
def lmax (s : aS) (id : Int) : Nat → Int
  | 0 => 0
  | p + 1 => max (lmax s id p) (lineL s id p)
theorem lineCount_lp {M : jM} {b r id K : Int} {s : aS} {kx : Int → Prop} (hS : XS M b s) (hr : RX M r id K (sF s id)) (h : kx (lmax s id 4)) : ∀ (d n p : Nat), d < n → p + d = 4 → 0 ≤ lmax s id p ∧ lmax s id p ≤ 5 → lp_X4_lineCount_4 b r M kx n (lmax s id p) p := by
  intro d
  induction d with
  | zero =>
    intro n p hn hp hb
    obtain ⟨n, rfl⟩ : ∃ m, n = m + 1 := ⟨n - 1, by omega⟩
    have : p = 4 := by omega
    subst this
    rw [lp_X4_lineCount_4, if_neg (by omega)]
    exact h
  | succ d ih =>
    intro n p hn hp hb
    obtain ⟨n, rfl⟩ : ∃ m, n = m + 1 := ⟨n - 1, by omega⟩
    have hf : sFld (p : Int) := by omega
    have ha := hS.ass hf
    have hl := hr.2.2.2.len hf
    rw [lp_X4_lineCount_4, if_pos (by omega), ha.1, valueCount_eq hr.2.2.2 hf]
    simp (disch := omega) only [jL, jW_id]
    have e : lmax s id (p + 1) = max (lmax s id p) (lineL s id p) := rfl
    have el : 0 ≤ lineL s id p ∧ lineL s id p ≤ 5 := by unfold lineL; split <;> omega
    have ih := ih n (p + 1) (by omega) (by omega) (by omega)
    refine ⟨by omega, ?_⟩
    rcases ha.2 with z | z
    · rw [if_pos z]
      rw [e, show max (lmax s id p) (lineL s id p) = lmax s id p by unfold lineL; rw [z, if_neg (by omega)]; omega] at ih
      exact ih
    · rw [if_neg (by omega)]
      rw [e, show max (lmax s id p) (lineL s id p) = jMax (lmax s id p) (fL (sF s id p)) by unfold lineL jMax; rw [z, if_pos rfl]; omega] at ih
      exact ih
theorem lineCount_k {N : Nat} {M : jM} {b r id K : Int} {s : aS} {k : Int → Prop} (hN : 100 ≤ N) (hS : XS M b s) (hr : RX M r id K (sF s id)) (h : k (nLines s id)) : w_X4_lineCount N M b r k := by
  have l0 : 0 ≤ lineL s id 0 := by have := (hr.2.2.2.len (f := 0) (by decide)).2; unfold lineL; split <;> omega
  have e : lmax s id 4 = nLines s id := by
    show max (max (max (max 0 (lineL s id 0)) (lineL s id 1)) (lineL s id 2)) (lineL s id 3) = _
    unfold nLines
    omega
  unfold w_X4_lineCount
  exact lineCount_lp hS hr (by rw [e]; exact h) 4 N 0 (by omega) (by omega) (by simp [lmax])
theorem isListed_eq {M : jM} {b l i : Int} {s : aS} (hS : XS M b s) (hl : sLst l) (h0 : 0 ≤ i) (h1 : i < 100) (k : Int → Prop) : w_X4_isListed M b l i k = k (bI (sL s l i)) := by
  unfold w_X4_isListed
  simp (disch := omega) only [jW_id, jB]
  rw [show l * 100 + i = 100 * l + i by omega, hS.lst hl h0 h1]
  simp only [eq_iff_iff, and_iff_right_iff_imp]
  intro _; omega
theorem setListed_eq {M : jM} {b l i v : Int} (hl : sLst l) (h0 : 0 ≤ i) (h1 : i < 100) (k : jM → Prop) : w_X4_setListed M b l i v k = k (jU M (b + 46) (100 * l + i) v) := by
  unfold w_X4_setListed
  simp (disch := omega) only [jW_id, jB, jL]
  rw [show l * 100 + i = 100 * l + i by omega]
  simp only [eq_iff_iff, and_iff_right_iff_imp]
  intro _; omega
/-- the first p places of a list written anew -/
def liC (M : jM) (b l p : Int) (g : Int → Bool) : jM := fun c i => if c = b + 46 ∧ 100 * l ≤ i ∧ i < 100 * l + p then bI (g (i - 100 * l)) else M c i
theorem liC_0 {M : jM} {b l : Int} {g : Int → Bool} : liC M b l 0 g = M := by
  funext c i
  simp only [liC]
  rw [if_neg (by omega)]
theorem liC_next {M : jM} {b l p : Int} {g : Int → Bool} (h : 0 ≤ p) : jU (liC M b l p g) (b + 46) (100 * l + p) (bI (g p)) = liC M b l (p + 1) g := by
  funext c i
  simp only [liC, jU]
  by_cases e : c = b + 46 ∧ i = 100 * l + p
  · rw [if_pos e, if_pos (by omega), show i - 100 * l = p by omega]
  · rw [if_neg e]
    by_cases e2 : c = b + 46 ∧ 100 * l ≤ i ∧ i < 100 * l + p
    · rw [if_pos e2, if_pos (by omega)]
    · rw [if_neg e2, if_neg (by omega)]
theorem liC_row {M : jM} {b l p c : Int} {g : Int → Bool} (h : c ≠ b + 46) : liC M b l p g c = M c := by funext i; simp [liC, h]
theorem liC_XS {M : jM} {b l : Int} {s : aS} {g : Int → Bool} (h : XS M b s) (hl : sLst l) : XS (liC M b l 100 g) b (setL s l g) := by
  have e : ∀ c : Int, c ≠ b + 46 → liC M b l 100 g c = M c := fun c hc => liC_row hc
  refine ⟨h.1, by rw [e _ (by omega)]; exact h.2.1, fun i h0 h1 => by rw [e _ (by omega)]; exact h.ref h0 h1, fun i j h0 h1 h2 h3 => by rw [e _ (by omega)]; exact h.inj h0 h1 h2 h3, fun i id hi => ?_, fun f hf => by rw [e _ (by omega)]; exact h.2.2.2.2.2.1 f hf, fun c hc => by rw [e _ (by omega), e _ (by omega), e _ (by omega)]; exact h.2.2.2.2.2.2.1 c hc, fun m i hm h0 h1 => ?_⟩
  · have hi : (sI s)[i]? = some id := hi
    have := h.lt hi
    have hr := h.in (i := i) (by omega) (by omega)
    rw [e (b + 1) (by omega)]
    exact (h.rec hi).congr (e _ (by omega)) (e _ (by omega)) (e _ (by omega)) (e _ (by omega))
  · show _ = bI (uI (sL s) l g m i)
    simp only [liC, uI, true_and]
    by_cases z : m = l
    · subst z
      rw [if_pos (by omega), if_pos rfl, show 100 * m + i - 100 * m = i by omega]
    · rw [if_neg (by omega), if_neg z]
      exact h.lst hm h0 h1
theorem emptyList_lp {b l : Int} {kx : jM → Prop} (hl : sLst l) (M : jM) (h : kx (liC M b l 100 (fun _ => false))) : ∀ (d n p : Nat), d < n → p + d = 100 → lp_X4_emptyList_2 b l kx n p (liC M b l p (fun _ => false)) := by
  intro d
  induction d with
  | zero =>
    intro n p hn hp
    obtain ⟨n, rfl⟩ : ∃ m, n = m + 1 := ⟨n - 1, by omega⟩
    have : p = 100 := by omega
    subst this
    rw [lp_X4_emptyList_2, if_neg (by omega)]
    exact h
  | succ d ih =>
    intro n p hn hp
    obtain ⟨n, rfl⟩ : ∃ m, n = m + 1 := ⟨n - 1, by omega⟩
    rw [lp_X4_emptyList_2, if_pos (by omega), setListed_eq hl (by omega) (by omega)]
    simp (disch := omega) only [jL, jW_id]
    have e := liC_next (M := M) (b := b) (l := l) (p := p) (g := fun _ => false) (by omega)
    rw [show (0 : Int) = bI false from rfl, e]
    exact ih n (p + 1) (by omega) (by omega)
theorem emptyList_k {N : Nat} {M : jM} {b l : Int} {k : jM → Prop} (hN : 200 ≤ N) (hl : sLst l) (h : k (liC M b l 100 (fun _ => false))) : w_X4_emptyList N M b l k := by
  unfold w_X4_emptyList
  have := emptyList_lp (b := b) (kx := k) hl M h 100 N 0 (by omega) (by omega)
  rw [show ((0 : Nat) : Int) = 0 from rfl, liC_0] at this
  exact this
theorem range_countP {P : Nat → Bool} {p : Nat} : (List.range (p + 1)).countP P = (List.range p).countP P + (if P p then 1 else 0) := by
  rw [List.range_succ, List.countP_append]
  simp [List.countP_singleton]
theorem listedCount_lp {M : jM} {b l : Int} {s : aS} {kx : Int → Prop} (hS : XS M b s) (hl : sLst l) (h : kx (nList s l)) : ∀ (d n p : Nat), d < n → p + d = 100 → lp_X4_listedCount_4 b l M kx n ((List.range p).countP (fun i : Nat => sL s l i) : Nat) p := by
  intro d
  induction d with
  | zero =>
    intro n p hn hp
    obtain ⟨n, rfl⟩ : ∃ m, n = m + 1 := ⟨n - 1, by omega⟩
    have : p = 100 := by omega
    subst this
    rw [lp_X4_listedCount_4, if_neg (by omega)]
    exact h
  | succ d ih =>
    intro n p hn hp
    obtain ⟨n, rfl⟩ : ∃ m, n = m + 1 := ⟨n - 1, by omega⟩
    have hle : (List.range p).countP (fun i : Nat => sL s l i) ≤ p := Nat.le_trans List.countP_le_length (by simp)
    rw [lp_X4_listedCount_4, if_pos (by omega), isListed_eq hS hl (by omega) (by omega)]
    have ih := ih n (p + 1) (by omega) (by omega)
    rw [range_countP] at ih
    simp (disch := omega) only [jL, jW_id]
    by_cases z : sL s l p = true
    · simpa [z, bI] using ih
    · simpa [z, bI] using ih
theorem listedCount_k {N : Nat} {M : jM} {b l : Int} {s : aS} {k : Int → Prop} (hN : 200 ≤ N) (hS : XS M b s) (hl : sLst l) (h : k (nList s l)) : w_X4_listedCount N M b l k :=
  listedCount_lp hS hl h 100 N 0 (by omega) (by omega)
def stC (M : jM) (b c k f g : Int) : jM := fun x i => if x = b + 43 ∧ i = c then k else if x = b + 44 ∧ i = c then f else if x = b + 45 ∧ i = c then g else M x i
theorem setColumn_eq {M : jM} {b c x f g : Int} (hc : sCol c) (k : jM → Prop) : w_X4_setColumn M b c x f g k = k (stC M b c x f g) := by
  unfold w_X4_setColumn
  simp only [jL, jB]
  have e : jU (jU (jU M (b + 43) c x) (b + 44) c f) (b + 45) c g = stC M b c x f g := by
    funext y i
    simp only [jU, stC]
    grind (splits := 20)
  rw [e]
  simp [hc.1, hc.2]
theorem stC_XS {M : jM} {b c x f g : Int} {s : aS} (h : XS M b s) (hc : sCol c) (hx : 0 ≤ x ∧ x ≤ 4) (hf : sFld f) (hg : sFld g) : XS (stC M b c x f g) b (setC s c x f g) := by
  have e : ∀ y : Int, y ≠ b + 43 → y ≠ b + 44 → y ≠ b + 45 → stC M b c x f g y = M y := fun y a1 a2 a3 => by funext i; simp [stC, a1, a2, a3]
  refine ⟨⟨h.1.1, h.1.2.1, h.1.2.2.1, h.1.2.2.2.1, fun d hd => ?_⟩, by rw [e _ (by omega) (by omega) (by omega)]; exact h.2.1, fun i h0 h1 => by rw [e _ (by omega) (by omega) (by omega)]; exact h.ref h0 h1, fun i j h0 h1 h2 h3 => by rw [e _ (by omega) (by omega) (by omega)]; exact h.inj h0 h1 h2 h3, fun i id hi => ?_, fun f hf => by rw [e _ (by omega) (by omega) (by omega)]; exact h.2.2.2.2.2.1 f hf, fun d hd => ?_, fun m i hm h0 h1 => by rw [e _ (by omega) (by omega) (by omega)]; exact h.lst hm h0 h1⟩
  · have q := h.1.2.2.2.2 d hd
    show 0 ≤ uI (sC s) c _ d 0 ∧ uI (sC s) c _ d 0 ≤ 4 ∧ sFld (uI (sC s) c _ d 1) ∧ sFld (uI (sC s) c _ d 2)
    simp only [uI]
    by_cases z : d = c
    · rw [if_pos z]
      simp
      exact ⟨hx.1, hx.2, hf, hg⟩
    · rw [if_neg z]
      exact q
  · have hi : (sI s)[i]? = some id := hi
    have := h.lt hi
    have hr := h.in (i := i) (by omega) (by omega)
    rw [e (b + 1) (by omega) (by omega) (by omega)]
    exact (h.rec hi).congr (e _ (by omega) (by omega) (by omega)) (e _ (by omega) (by omega) (by omega)) (e _ (by omega) (by omega) (by omega)) (e _ (by omega) (by omega) (by omega))
  · have q := h.col hd
    show _ = uI (sC s) c _ d 0 ∧ _ = uI (sC s) c _ d 1 ∧ _ = uI (sC s) c _ d 2
    simp only [uI, stC]
    by_cases z : d = c
    · subst z
      simp
    · rw [if_neg z]
      have z1 : ¬ (b + 43 = b + 43 ∧ d = c) := fun y => z y.2
      simp [z]
      exact q
