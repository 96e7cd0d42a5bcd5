/-! THE REFERENCE'S RECORDS: o = 55 + 106 r is the record's first place -/
theorem RM.fr {M : jM} {o id K f : Int} {F : rF} (h : RM M 253 o id K F) (hf : sFld f) : FR (F f) (M 253 (o + 2 + f)) (fun v => M 253 (o + 6 + 5 * f + v)) (fun v k => M 253 (o + 26 + 20 * f + 4 * v + k)) := h.2.2.2 f hf.1 hf.2
theorem RM.len {M : jM} {o id K f : Int} {F : rF} (h : RM M 253 o id K F) (hf : sFld f) : M 253 (o + 2 + f) = fL (F f) ∧ 0 ≤ fL (F f) ∧ fL (F f) ≤ 5 := by
  have q := (h.fr hf).len
  unfold fL
  omega
theorem RM.sub {M : jM} {o id K f v : Int} {F : rF} (h : RM M 253 o id K F) (hf : sFld f) (h0 : 0 ≤ v) (h1 : v < fL (F f)) : M 253 (o + 6 + 5 * f + v) = fS (F f) v ∧ 1 ≤ fS (F f) v ∧ fS (F f) v ≤ 4 := by
  have l := h.len hf
  have q := (h.fr hf).val h0 (by rw [l.1]; exact h1)
  unfold fS
  omega
theorem RM.num {M : jM} {o id K f v w : Int} {F : rF} (h : RM M 253 o id K F) (hf : sFld f) (h0 : 0 ≤ v) (h1 : v < fL (F f)) (w0 : 0 ≤ w) (w1 : w < fS (F f) v) : M 253 (o + 26 + 20 * f + 4 * v + w) = fN (F f) v w ∧ -999 ≤ fN (F f) v w ∧ fN (F f) v w ≤ 999 := by
  have l := h.len hf
  have s := h.sub hf h0 h1
  have q := (h.fr hf).num h0 (by rw [l.1]; exact h1) w0 (by show w < M 253 (o + 6 + 5 * f + v); rw [s.1]; exact w1)
  exact ⟨q.2.1, by have := q.2.2; rw [q.2.1] at this; exact this.1, by have := q.2.2; rw [q.2.1] at this; exact this.2⟩
theorem RM.ok {M : jM} {o id K f : Int} {F : rF} (h : RM M 253 o id K F) (hf : sFld f) : fOK (F f) := (h.fr hf).ok
theorem valuesOf_eq {M : jM} {r id K f : Int} {F : rF} (hr : sRec r) (h : RM M 253 (55 + 106 * r) id K F) (hf : sFld f) (k : Int → Prop) : w_X7_valuesOf M 252 r f k = k (fL (F f)) := by
  unfold w_X7_valuesOf
  rw [jW_id (by omega), of_eq hr (by omega), ← (h.len hf).1, ← Int.add_assoc]
theorem numCell_eq {f v w : Int} (hf : sFld f) (hv : 0 ≤ v ∧ v < 5) (hw : 0 ≤ w ∧ w < 4) (k : Int → Prop) : w_X7_numberAtCell f v w k = k (26 + 20 * f + 4 * v + w) := by
  unfold w_X7_numberAtCell
  rw [jW_id (a := 20 * f) (by omega), jW_id (a := 26 + 20 * f) (by omega), jW_id (a := 4 * v) (by omega), jW_id (a := 26 + 20 * f + 4 * v) (by omega), jW_id (by omega)]
theorem subCell_eq {f v : Int} (hf : sFld f) (hv : 0 ≤ v ∧ v < 5) (k : Int → Prop) : w_X7_subsAt f v k = k (6 + 5 * f + v) := by
  unfold w_X7_subsAt
  rw [jW_id (a := 5 * f) (by omega), jW_id (a := 6 + 5 * f) (by omega), jW_id (by omega)]
theorem subsOf_eq {M : jM} {r f v : Int} (hr : sRec r) (hf : sFld f) (hv : 0 ≤ v ∧ v < 5) (k : Int → Prop) : w_X7_subsOf M 252 r f v k = k (M 253 (55 + 106 * r + 6 + 5 * f + v)) := by
  unfold w_X7_subsOf
  rw [subCell_eq hf hv, of_eq hr (by omega)]
  congr 2
  omega
theorem mnum_eq {M : jM} {r f v w : Int} (hr : sRec r) (hf : sFld f) (hv : 0 ≤ v ∧ v < 5) (hw : 0 ≤ w ∧ w < 4) (k : Int → Prop) : w_X7_numberOf M 252 r f v w k = k (M 253 (55 + 106 * r + 26 + 20 * f + 4 * v + w)) := by
  unfold w_X7_numberOf
  rw [numCell_eq hf hv hw, of_eq hr (by omega)]
  congr 2
  omega
theorem mHasValue_eq {M : jM} {r id K f : Int} {F : rF} (hr : sRec r) (h : RM M 253 (55 + 106 * r) id K F) (hf : sFld f) (v : Int) (k : Int → Prop) : w_X7_hasValue M 252 r f v k = k (if 0 ≤ v ∧ v < fL (F f) then 1 else 0) := by
  unfold w_X7_hasValue
  have l := h.len hf
  rw [valuesOf_eq hr h hf, jW_id (by omega), in_eq]
  congr 1
  by_cases z : 0 ≤ v ∧ v < fL (F f)
  · rw [if_pos z, if_pos (by omega)]
  · rw [if_neg z, if_neg (by omega)]
theorem mHasSub_eq {M : jM} {r id K f : Int} {F : rF} (hr : sRec r) (h : RM M 253 (55 + 106 * r) id K F) (hf : sFld f) (v w : Int) (k : Int → Prop) : w_X7_hasSub M 252 r f v w k = k (if (0 ≤ v ∧ v < fL (F f)) ∧ 0 ≤ w ∧ w < fS (F f) v then 1 else 0) := by
  unfold w_X7_hasSub
  have l := h.len hf
  rw [mHasValue_eq hr h hf]
  simp only [b01, ite_not]
  by_cases z : 0 ≤ v ∧ v < fL (F f)
  · have q := h.sub hf z.1 z.2
    rw [if_pos z, subsOf_eq hr hf (by omega), q.1, jW_id (by omega), in_eq]
    simp only [b01, ite_not]
    by_cases y : 0 ≤ w ∧ w < fS (F f) v
    · rw [if_pos (by omega), if_pos ⟨z, y⟩]
    · rw [if_neg (by omega), if_neg (fun x => y x.2)]
  · rw [if_neg z, if_neg (fun x => z x.1)]
/-! closed forms -/
def mcM (M : jM) (o f a b p : Int) : jM := fun c i => if c = 253 ∧ i = o + 6 + 5 * f + b then M c (o + 6 + 5 * f + a) else if c = 253 ∧ o + 26 + 20 * f + 4 * b ≤ i ∧ i < o + 26 + 20 * f + 4 * b + p then M c (i + 4 * (a - b)) else M c i
theorem copiesValue_lp {M : jM} {r f a b : Int} {kx : jM → Prop} (hr : sRec r) (hf : sFld f) (ha : 0 ≤ a ∧ a < 5) (hb : 0 ≤ b ∧ b < 5) (hab : a ≠ b) (H : kx (mcM M (55 + 106 * r) f a b 4)) : ∀ (d n p : Nat), d < n → p + d = 4 → lp_X7_copiesValue_21 252 r f a b kx n p (mcM M (55 + 106 * r) f a b p) := by
  intro d
  induction d with
  | zero =>
    intro n p hn hp
    obtain ⟨n, rfl⟩ : ∃ m, n = m + 1 := ⟨n - 1, by omega⟩
    have : p = 4 := by omega
    subst this
    rw [lp_X7_copiesValue_21, if_neg (by omega)]
    exact H
  | succ d ih =>
    intro n p hn hp
    obtain ⟨n, rfl⟩ : ∃ m, n = m + 1 := ⟨n - 1, by omega⟩
    rw [lp_X7_copiesValue_21, if_pos (by omega), numCell_eq hf hb (by omega), mnum_eq hr hf ha (by omega), lays_eq hr (by omega)]
    simp (disch := omega) only [jL, jW_id]
    have e : jU (mcM M (55 + 106 * r) f a b p) 253 (55 + 106 * r + (26 + 20 * f + 4 * b + p)) (mcM M (55 + 106 * r) f a b p 253 (55 + 106 * r + 26 + 20 * f + 4 * a + p)) = mcM M (55 + 106 * r) f a b ((p + 1 : Nat) : Int) := by
      funext c i
      simp only [jU, mcM]
      grind (splits := 30)
    rw [e]
    exact ih n (p + 1) (by omega) (by omega)
theorem copiesValue_eq {N : Nat} {M : jM} {r f a b : Int} {k : jM → Prop} (hN : 5000 ≤ N) (hr : sRec r) (hf : sFld f) (ha : 0 ≤ a ∧ a < 5) (hb : 0 ≤ b ∧ b < 5) (hab : a ≠ b) (H : k (mcM M (55 + 106 * r) f a b 4)) : w_X7_copiesValue N M 252 r f a b k := by
  unfold w_X7_copiesValue
  rw [subCell_eq hf hb, subsOf_eq hr hf ha, lays_eq hr (by omega)]
  have := copiesValue_lp (M := M) (kx := k) hr hf ha hb hab H 4 N 0 (by omega) (by omega)
  have e : jU M 253 (55 + 106 * r + (6 + 5 * f + b)) (M 253 (55 + 106 * r + 6 + 5 * f + a)) = mcM M (55 + 106 * r) f a b ((0 : Nat) : Int) := by
    funext c i
    simp only [jU, mcM]
    grind (splits := 30)
  rw [e]
  exact this
def emM (M : jM) (o f v p : Int) : jM := fun c i => if c = 253 ∧ i = o + 6 + 5 * f + v then 0 else if c = 253 ∧ o + 26 + 20 * f + 4 * v ≤ i ∧ i < o + 26 + 20 * f + 4 * v + p then 0 else M c i
theorem empties_lp {M : jM} {r f v : Int} {kx : jM → Prop} (hr : sRec r) (hf : sFld f) (hv : 0 ≤ v ∧ v < 5) (H : kx (emM M (55 + 106 * r) f v 4)) : ∀ (d n p : Nat), d < n → p + d = 4 → lp_X7_empties_14 252 r f v kx n p (emM M (55 + 106 * r) f v p) := by
  intro d
  induction d with
  | zero =>
    intro n p hn hp
    obtain ⟨n, rfl⟩ : ∃ m, n = m + 1 := ⟨n - 1, by omega⟩
    have : p = 4 := by omega
    subst this
    rw [lp_X7_empties_14, if_neg (by omega)]
    exact H
  | succ d ih =>
    intro n p hn hp
    obtain ⟨n, rfl⟩ : ∃ m, n = m + 1 := ⟨n - 1, by omega⟩
    rw [lp_X7_empties_14, if_pos (by omega), numCell_eq hf hv (by omega), lays_eq hr (by omega)]
    simp (disch := omega) only [jL, jW_id]
    have e : jU (emM M (55 + 106 * r) f v p) 253 (55 + 106 * r + (26 + 20 * f + 4 * v + p)) 0 = emM M (55 + 106 * r) f v ((p + 1 : Nat) : Int) := by
      funext c i
      simp only [jU, emM]
      grind (splits := 30)
    rw [e]
    exact ih n (p + 1) (by omega) (by omega)
theorem empties_eq {N : Nat} {M : jM} {r f v : Int} {k : jM → Prop} (hN : 5000 ≤ N) (hr : sRec r) (hf : sFld f) (hv : 0 ≤ v ∧ v < 5) (H : k (emM M (55 + 106 * r) f v 4)) : w_X7_empties N M 252 r f v k := by
  unfold w_X7_empties
  rw [subCell_eq hf hv, lays_eq hr (by omega)]
  have := empties_lp (M := M) (kx := k) hr hf hv H 4 N 0 (by omega) (by omega)
  have e : jU M 253 (55 + 106 * r + (6 + 5 * f + v)) 0 = emM M (55 + 106 * r) f v ((0 : Nat) : Int) := by
    funext c i
    simp only [jU, emM]
    grind (splits := 30)
  rw [e]
  exact this
/-- values v .. p - 1 take the places behind them -/
def mdM (M : jM) (o f v p : Int) : jM := fun c i => if c = 253 ∧ o + 6 + 5 * f + v ≤ i ∧ i < o + 6 + 5 * f + p then M c (i + 1) else if c = 253 ∧ o + 26 + 20 * f + 4 * v ≤ i ∧ i < o + 26 + 20 * f + 4 * p then M c (i + 4) else M c i
theorem mdM_next {M : jM} {o f v p : Int} (h : v ≤ p) (hf : sFld f) (hv : 0 ≤ v) (hp : p + 1 < 5) : mcM (mdM M o f v p) o f (p + 1) p 4 = mdM M o f v (p + 1) := by
  funext c i
  simp only [mcM, mdM]
  grind (splits := 40)
theorem dropsValue_lp {N : Nat} {M : jM} {r f v m : Int} {kx : jM → Prop} (hN : 5000 ≤ N) (hr : sRec r) (hf : sFld f) (hv : 0 ≤ v) (hm : m ≤ 5) (H : kx (mdM M (55 + 106 * r) f v (m - 1))) : ∀ (d n : Nat) (p : Int), d < n → p + d = m - 1 → v ≤ p → lp_X7_dropsValue_11 N 252 r f m kx n p (mdM M (55 + 106 * r) f v p) := by
  intro d
  induction d with
  | zero =>
    intro n p hn hp hvp
    obtain ⟨n, rfl⟩ : ∃ m, n = m + 1 := ⟨n - 1, by omega⟩
    have : p = m - 1 := by omega
    subst this
    rw [lp_X7_dropsValue_11, jW_id (by omega), if_neg (by omega)]
    exact H
  | succ d ih =>
    intro n p hn hp hvp
    obtain ⟨n, rfl⟩ : ∃ m, n = m + 1 := ⟨n - 1, by omega⟩
    rw [lp_X7_dropsValue_11, jW_id (a := p + 1) (by omega), if_pos (by omega)]
    refine copiesValue_eq hN hr hf (by omega) (by omega) (by omega) ?_
    rw [mdM_next (by omega) hf hv (by omega)]
    exact ih n (p + 1) (by omega) (by omega) (by omega)
/-- a value dropped -/
def mdel (M : jM) (o f v m : Int) : jM := fun c i => if c = 253 ∧ i = o + 2 + f then m - 1 else emM (mdM M o f v (m - 1)) o f (m - 1) 4 c i
theorem dropsValue_eq {N : Nat} {M : jM} {r id K f v : Int} {F : rF} {k : jM → Prop} (hN : 5000 ≤ N) (hr : sRec r) (h : RM M 253 (55 + 106 * r) id K F) (hf : sFld f) (hv : 0 ≤ v) (hv1 : v < fL (F f)) (H : k (mdel M (55 + 106 * r) f v (fL (F f)))) : w_X7_dropsValue N M 252 r f v k := by
  have l := h.len hf
  unfold w_X7_dropsValue
  rw [valuesOf_eq hr h hf]
  have := dropsValue_lp (M := M) (v := v) (m := fL (F f)) (kx := (fun (M4 : jM) => (w_X7_empties N M4 252 r f (jW (fL (F f) - 1)) (fun M5 => (w_X7_lays M5 252 r (jW (2 + f)) (jW (fL (F f) - 1)) (fun M6 => (k M6))))))) hN hr hf hv (by omega) ?_ (fL (F f) - 1 - v).toNat N v (by omega) (by omega) (by omega)
  · have e : mdM M (55 + 106 * r) f v v = M := by
      funext c i
      unfold mdM
      rw [if_neg (by omega), if_neg (by omega)]
    rw [e] at this
    exact this
  · rw [jW_id (a := fL (F f) - 1) (by omega)]
    refine empties_eq hN hr hf (by omega) ?_
    rw [jW_id (by omega), lays_eq hr (by omega)]
    have e : jU (emM (mdM M (55 + 106 * r) f v (fL (F f) - 1)) (55 + 106 * r) f (fL (F f) - 1) 4) 253 (55 + 106 * r + (2 + f)) (fL (F f) - 1) = mdel M (55 + 106 * r) f v (fL (F f)) := by
      funext c i
      simp only [jU, mdel]
      rw [show 55 + 106 * r + (2 + f) = 55 + 106 * r + 2 + f by omega]
    rw [e]
    exact H
theorem RM.one {M M' : jM} {o id K f : Int} {F : rF} {L : List (List Int)} (h : RM M 253 o id K F) (hf : sFld f) (e : ∀ i : Int, o ≤ i → i < o + 106 → i ≠ o + 2 + f → ¬ (o + 6 + 5 * f ≤ i ∧ i < o + 6 + 5 * f + 5) → ¬ (o + 26 + 20 * f ≤ i ∧ i < o + 26 + 20 * f + 20) → M' 253 i = M 253 i) (hL : FR L (M' 253 (o + 2 + f)) (fun v => M' 253 (o + 6 + 5 * f + v)) (fun v k => M' 253 (o + 26 + 20 * f + 4 * v + k))) : RM M' 253 o id K (uI F f L) := by
  obtain ⟨h1, h2, h3, h4⟩ := h
  refine ⟨by rw [e o (by omega) (by omega) (by omega) (by omega) (by omega)]; exact h1, by rw [e (o + 1) (by omega) (by omega) (by omega) (by omega) (by omega)]; exact h2, h3, fun g g0 g1 => ?_⟩
  by_cases z : g = f
  · subst z
    rw [uI_self]
    exact hL
  · rw [uI_ne z]
    have q := h4 g g0 g1
    have l := q.len
    refine q.congr (e _ (by omega) (by omega) (by omega) (by omega) (by omega)) (fun v v0 v1 => e _ (by omega) (by omega) (by omega) (by omega) (by omega)) (fun v k v0 v1 k0 k1 => ?_)
    have hv := q.val v0 v1
    exact e _ (by omega) (by omega) (by omega) (by omega) (by omega)
theorem mdel_RM {M : jM} {o id K f v : Int} {F : rF} (h : RM M 253 o id K F) (hf : sFld f) (hv : 0 ≤ v) (hv1 : v < fL (F f)) : RM (mdel M o f v (fL (F f))) 253 o id K (uI F f (fDelV (F f) v)) := by
  have l := h.len hf
  refine h.one hf (fun i i0 i1 n1 n2 n3 => ?_) ?_
  · simp only [mdel, emM, mdM]
    grind (splits := 30)
  · refine (h.fr hf).delV hv (by rw [l.1]; exact hv1) ?_ (fun j j0 j1 => ?_) (fun j k j0 j1 k0 k1 => ?_) (fun j j0 j1 => ?_) (fun j k j0 j1 k0 k1 => ?_)
    · rw [l.1]
      simp [mdel]
    · simp only [mdel, emM, mdM]
      grind (splits := 30)
    · simp only [mdel, emM, mdM]
      grind (splits := 30)
    · rw [l.1] at j1
      simp only [mdel, emM, mdM]
      grind (splits := 30)
    · rw [l.1] at j1
      simp only [mdel, emM, mdM]
      grind (splits := 30)
