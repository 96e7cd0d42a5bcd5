/-! insert, remove on a record of the reference -/
def muM (M : jM) (o f v m : Int) : jM := fun c i => if c = 253 ∧ o + 6 + 5 * f + v < i ∧ i ≤ o + 6 + 5 * f + m then M c (i - 1) else if c = 253 ∧ o + 26 + 20 * f + 4 * v + 4 ≤ i ∧ i < o + 26 + 20 * f + 4 * m + 4 then M c (i - 4) else M c i
theorem muM_next {M : jM} {o f p m : Int} (h : p ≤ m) (hf : sFld f) (hp : 1 ≤ p) (hm : m < 5) : mcM (muM M o f p m) o f (p - 1) p 4 = muM M o f (p - 1) m := by
  funext c i
  simp only [mcM, muM]
  grind (splits := 40)
theorem insV_lp {N : Nat} {M : jM} {r f v m : Int} {kx : jM → Prop} (hN : 5000 ≤ N) (hr : sRec r) (hf : sFld f) (hv : 0 ≤ v) (hm : m < 5) (H : kx (muM M (55 + 106 * r) f v m)) : ∀ (d n : Nat) (p : Int), d < n → p = v + d → p ≤ m → lp_X7_goInsert_26 N 252 r f v kx n p (muM M (55 + 106 * r) f p m) := by
  intro d
  induction d with
  | zero =>
    intro n p hn hp hpm
    obtain ⟨n, rfl⟩ : ∃ m, n = m + 1 := ⟨n - 1, by omega⟩
    have : p = v := by omega
    subst this
    rw [lp_X7_goInsert_26, if_pos (by omega)]
    exact H
  | succ d ih =>
    intro n p hn hp hpm
    obtain ⟨n, rfl⟩ : ∃ m, n = m + 1 := ⟨n - 1, by omega⟩
    rw [lp_X7_goInsert_26, if_neg (by omega), jW_id (a := p - 1) (by omega)]
    refine copiesValue_eq hN hr hf (by omega) (by omega) (by omega) ?_
    rw [muM_next hpm hf (by omega) hm, show jW (p + -1) = p - 1 by rw [jW_id (by omega)]; omega]
    exact ih n (p - 1) (by omega) (by omega) (by omega)
def mins (M : jM) (o f v m x : Int) : jM := fun c i => if c = 253 ∧ i = o + 2 + f then m + 1 else if c = 253 ∧ i = o + 6 + 5 * f + v then 1 else if c = 253 ∧ i = o + 26 + 20 * f + 4 * v then x else if c = 253 ∧ o + 26 + 20 * f + 4 * v < i ∧ i < o + 26 + 20 * f + 4 * v + 4 then 0 else muM M o f v m c i
def musM (M : jM) (o f v w m : Int) : jM := fun c i => if c = 253 ∧ o + 26 + 20 * f + 4 * v + w < i ∧ i ≤ o + 26 + 20 * f + 4 * v + m then M c (i - 1) else M c i
def minsS (M : jM) (o f v w m x : Int) : jM := fun c i => if c = 253 ∧ i = o + 6 + 5 * f + v then m + 1 else if c = 253 ∧ i = o + 26 + 20 * f + 4 * v + w then x else musM M o f v w m c i
theorem insS_lp {M : jM} {r f v w m : Int} {kx : jM → Prop} (hr : sRec r) (hf : sFld f) (hv : 0 ≤ v ∧ v < 5) (hw : 0 ≤ w) (hm : m < 4) (H : kx (musM M (55 + 106 * r) f v w m)) : ∀ (d n : Nat) (p : Int), d < n → p = w + d → p ≤ m → lp_X7_goInsert_120 252 r f v w kx n p (musM M (55 + 106 * r) f v p m) := by
  intro d
  induction d with
  | zero =>
    intro n p hn hp hpm
    obtain ⟨n, rfl⟩ : ∃ m, n = m + 1 := ⟨n - 1, by omega⟩
    have : p = w := by omega
    subst this
    rw [lp_X7_goInsert_120, if_pos (by omega)]
    exact H
  | succ d ih =>
    intro n p hn hp hpm
    obtain ⟨n, rfl⟩ : ∃ m, n = m + 1 := ⟨n - 1, by omega⟩
    rw [lp_X7_goInsert_120, if_neg (by omega), numCell_eq hf hv (by omega), jW_id (a := p - 1) (by omega), mnum_eq hr hf hv (by omega), lays_eq hr (by omega)]
    simp only [jL]
    have e : jU (musM M (55 + 106 * r) f v p m) 253 (55 + 106 * r + (26 + 20 * f + 4 * v + p)) (musM M (55 + 106 * r) f v p m 253 (55 + 106 * r + 26 + 20 * f + 4 * v + (p - 1))) = musM M (55 + 106 * r) f v (p - 1) m := by
      funext c i
      simp only [jU, musM]
      grind (splits := 30)
    rw [e, show jW (p + -1) = p - 1 by rw [jW_id (by omega)]; omega]
    exact ih n (p - 1) (by omega) (by omega) (by omega)
theorem goInsert_eq {N : Nat} {M : jM} {r id K f v w x : Int} {F : rF} {k : Int → jM → Prop} (hN : 5000 ≤ N) (hr : sRec r) (h : RM M 253 (55 + 106 * r) id K F) (hf : sFld f) (hp : sPl (F f) v w)
    (H1 : w = -1 → 5 ≤ fL (F f) → k (-1000004) M) (H2 : w = -1 → fL (F f) < 5 → k (fL (F f) + 1) (mins M (55 + 106 * r) f v (fL (F f)) x)) (H3 : w ≠ -1 → 4 ≤ fS (F f) v → k (-1000004) M) (H4 : w ≠ -1 → fS (F f) v < 4 → k (fS (F f) v + 1) (minsS M (55 + 106 * r) f v w (fS (F f) v) x)) : w_X7_goInsert N M 252 r f v w x k := by
  have l := h.len hf
  unfold w_X7_goInsert
  rw [valuesOf_eq hr h hf]
  by_cases z : w = -1
  · have hp1 : 0 ≤ v ∧ v ≤ fL (F f) := by rcases hp with q | q; exact q.2; exact absurd z q.1
    rw [if_pos (by omega)]
    by_cases z5 : fL (F f) = 5
    · rw [if_pos z5]
      exact H1 z (by omega)
    · rw [if_neg z5]
      have e0 : muM M (55 + 106 * r) f (fL (F f)) (fL (F f)) = M := by
        funext c i
        unfold muM
        rw [if_neg (by omega), if_neg (by omega)]
      have := insV_lp (M := M) (v := v) (m := fL (F f)) (kx := (fun (M4 : jM) => (w_X7_empties N M4 252 r f v (fun M5 => (w_X7_subsAt f v (fun x6 => (w_X7_lays M5 252 r x6 1 (fun M7 => (w_X7_numberAtCell f v 0 (fun x8 => (w_X7_lays M7 252 r x8 x (fun M9 => (w_X7_lays M9 252 r (jW (2 + f)) (jW (fL (F f) + 1)) (fun M10 => (k (jW (fL (F f) + 1)) M10))))))))))))))) hN hr hf hp1.1 (by omega) ?_ (fL (F f) - v).toNat N (fL (F f)) (by omega) (by omega) (by omega)
      · rw [e0] at this
        exact this
      · refine empties_eq hN hr hf (by omega) ?_
        rw [subCell_eq hf (by omega), lays_eq hr (by omega), numCell_eq hf (by omega) (by omega), lays_eq hr (by omega), jW_id (a := 2 + f) (by omega), lays_eq hr (by omega), jW_id (by omega)]
        have e : jU (jU (jU (emM (muM M (55 + 106 * r) f v (fL (F f))) (55 + 106 * r) f v 4) 253 (55 + 106 * r + (6 + 5 * f + v)) 1) 253 (55 + 106 * r + (26 + 20 * f + 4 * v + 0)) x) 253 (55 + 106 * r + (2 + f)) (fL (F f) + 1) = mins M (55 + 106 * r) f v (fL (F f)) x := by
          funext c i
          simp only [jU, mins, emM]
          generalize muM M (55 + 106 * r) f v (fL (F f)) c i = y
          grind (splits := 30)
        rw [e]
        exact H2 z (by omega)
  · have hp1 : (0 ≤ v ∧ v < fL (F f)) ∧ 0 ≤ w ∧ w ≤ fS (F f) v := by rcases hp with q | q; exact absurd q.1 z; exact q.2
    have s := h.sub hf hp1.1.1 hp1.1.2
    rw [if_neg (by omega), subsOf_eq hr hf (by omega), s.1]
    by_cases z5 : fS (F f) v = 4
    · rw [if_pos z5]
      exact H3 z (by omega)
    · rw [if_neg z5]
      have e0 : musM M (55 + 106 * r) f v (fS (F f) v) (fS (F f) v) = M := by
        funext c i
        unfold musM
        rw [if_neg (by omega)]
      have := insS_lp (M := M) (v := v) (w := w) (m := fS (F f) v) (kx := (fun (M16 : jM) => (w_X7_numberAtCell f v w (fun x17 => (w_X7_lays M16 252 r x17 x (fun M18 => (w_X7_subsAt f v (fun x19 => (w_X7_lays M18 252 r x19 (jW (fS (F f) v + 1)) (fun M20 => (k (jW (fS (F f) v + 1)) M20))))))))))) hr hf (by omega) hp1.2.1 (by omega) ?_ (fS (F f) v - w).toNat N (fS (F f) v) (by omega) (by omega) (by omega)
      · rw [e0] at this
        exact this
      · rw [numCell_eq hf (by omega) (by omega), lays_eq hr (by omega), subCell_eq hf (by omega), lays_eq hr (by omega), jW_id (by omega)]
        have e : jU (jU (musM M (55 + 106 * r) f v w (fS (F f) v)) 253 (55 + 106 * r + (26 + 20 * f + 4 * v + w)) x) 253 (55 + 106 * r + (6 + 5 * f + v)) (fS (F f) v + 1) = minsS M (55 + 106 * r) f v w (fS (F f) v) x := by
          funext c i
          simp only [jU, minsS]
          generalize musM M (55 + 106 * r) f v w (fS (F f) v) c i = y
          grind (splits := 30)
        rw [e]
        exact H4 z (by omega)
theorem mins_RM {M : jM} {o id K f v x : Int} {F : rF} (h : RM M 253 o id K F) (hf : sFld f) (hv : 0 ≤ v) (hv1 : v ≤ fL (F f)) (h5 : fL (F f) < 5) (hx : sNum x) : RM (mins M o f v (fL (F f)) x) 253 o id K (uI F f (fInsV (F f) v x)) := by
  have l := h.len hf
  refine h.one hf (fun i i0 i1 n1 n2 n3 => ?_) ?_
  · simp only [mins, muM]
    grind (splits := 30)
  · refine (h.fr hf).insV hv (by rw [l.1]; exact hv1) (by rw [l.1]; exact h5) hx ?_ (fun j j0 j1 => ?_) (fun j k j0 j1 k0 k1 => ?_) ?_ ?_ (fun j j0 j1 => ?_) (fun j k j0 j1 k0 k1 => ?_)
    · rw [l.1]
      simp [mins]
    · simp only [mins, muM]
      grind (splits := 30)
    · simp only [mins, muM]
      grind (splits := 30)
    · simp only [mins, muM]
      grind (splits := 30)
    · simp only [mins, muM]
      grind (splits := 30)
    · rw [l.1] at j1
      simp only [mins, muM]
      grind (splits := 30)
    · rw [l.1] at j1
      simp only [mins, muM]
      grind (splits := 30)
theorem minsS_RM {M : jM} {o id K f v w x : Int} {F : rF} (h : RM M 253 o id K F) (hf : sFld f) (hv : 0 ≤ v) (hv1 : v < fL (F f)) (hw : 0 ≤ w) (hw1 : w ≤ fS (F f) v) (h4 : fS (F f) v < 4) (hx : sNum x) : RM (minsS M o f v w (fS (F f) v) x) 253 o id K (uI F f (fInsS (F f) v w x)) := by
  have l := h.len hf
  have s := h.sub hf hv hv1
  refine h.one hf (fun i i0 i1 n1 n2 n3 => ?_) ?_
  · simp only [minsS, musM]
    grind (splits := 30)
  · have s1 := s.1
    refine (h.fr hf).insS hv (by rw [l.1]; exact hv1) hw (by show w ≤ M 253 (o + 6 + 5 * f + v); rw [s.1]; exact hw1) (by show M 253 (o + 6 + 5 * f + v) < 4; rw [s.1]; exact h4) hx ?_ (fun j j0 j1 jn => ?_) (fun j k j0 j1 jn k0 k1 => ?_) ?_ (fun k k0 k1 => ?_) ?_ (fun k k0 k1 => ?_)
    · simp only [minsS, musM]
      grind (splits := 30)
    · simp only [minsS, musM]
      grind (splits := 30)
    · rw [l.1] at j1
      simp only [minsS, musM]
      grind (splits := 30)
    · show minsS M o f v w (fS (F f) v) x 253 (o + 6 + 5 * f + v) = M 253 (o + 6 + 5 * f + v) + 1
      rw [s1]
      simp [minsS]
    · simp only [minsS, musM]
      grind (splits := 30)
    · simp only [minsS, musM]
      grind (splits := 30)
    · have k1 : k ≤ fS (F f) v := by rw [← s1]; exact k1
      simp only [minsS, musM]
      grind (splits := 30)
theorem mchg_RM {M : jM} {o id K f v w x : Int} {F : rF} (h : RM M 253 o id K F) (hf : sFld f) (hv : 0 ≤ v) (hv1 : v < fL (F f)) (hw : 0 ≤ w) (hw1 : w < fS (F f) v) (hx : sNum x) : RM (jU M 253 (o + 26 + 20 * f + 4 * v + w) x) 253 o id K (uI F f (fChg (F f) v w x)) := by
  have l := h.len hf
  have s := h.sub hf hv hv1
  refine h.one hf (fun i i0 i1 n1 n2 n3 => ?_) ?_
  · simp only [jU]
    rw [if_neg (by omega)]
  · refine (h.fr hf).chg hv (by rw [l.1]; exact hv1) hw (by show w < M 253 (o + 6 + 5 * f + v); rw [s.1]; exact hw1) hx ?_ (fun j j0 j1 => ?_) (fun j k j0 j1 k0 k1 jn => ?_) ?_
    · simp only [jU]
      rw [if_neg (by omega)]
    · simp only [jU]
      rw [if_neg (by omega)]
    · simp only [jU]
      rw [if_neg (by omega)]
    · simp [jU]
def mrsM (M : jM) (o f v w p m : Int) : jM := fun c i => if c = 253 ∧ o + 26 + 20 * f + 4 * v + w ≤ i ∧ i < o + 26 + 20 * f + 4 * v + p then (if i + 1 < o + 26 + 20 * f + 4 * v + m then M c (i + 1) else 0) else M c i
def mdelS (M : jM) (o f v w m : Int) : jM := fun c i => if c = 253 ∧ i = o + 6 + 5 * f + v then m - 1 else mrsM M o f v w 4 m c i
theorem remS_lp {M : jM} {r f v w m : Int} {kx : jM → Prop} (hr : sRec r) (hf : sFld f) (hv : 0 ≤ v ∧ v < 5) (hw : 0 ≤ w) (hm : m ≤ 4) (H : kx (mrsM M (55 + 106 * r) f v w 4 m)) : ∀ (d n : Nat) (p : Int), d < n → p + d = 4 → w ≤ p → lp_X7_goRemove_38 252 r f v m kx n p (mrsM M (55 + 106 * r) f v w p m) := by
  intro d
  induction d with
  | zero =>
    intro n p hn hp hpm
    obtain ⟨n, rfl⟩ : ∃ m, n = m + 1 := ⟨n - 1, by omega⟩
    have : p = 4 := by omega
    subst this
    rw [lp_X7_goRemove_38, if_neg (by omega)]
    exact H
  | succ d ih =>
    intro n p hn hp hpm
    obtain ⟨n, rfl⟩ : ∃ m, n = m + 1 := ⟨n - 1, by omega⟩
    rw [lp_X7_goRemove_38, if_pos (by omega), numCell_eq hf hv (by omega), jW_id (a := p + 1) (by omega)]
    by_cases z : p + 1 < m
    · rw [if_pos z, mnum_eq hr hf hv (by omega), lays_eq hr (by omega)]
      simp only [jL]
      have e : jU (mrsM M (55 + 106 * r) f v w p m) 253 (55 + 106 * r + (26 + 20 * f + 4 * v + p)) (mrsM M (55 + 106 * r) f v w p m 253 (55 + 106 * r + 26 + 20 * f + 4 * v + (p + 1))) = mrsM M (55 + 106 * r) f v w (p + 1) m := by
        funext c i
        simp only [jU, mrsM]
        grind (splits := 30)
      rw [e]
      exact ih n (p + 1) (by omega) (by omega) (by omega)
    · rw [if_neg z, lays_eq hr (by omega)]
      simp only [jL]
      have e : jU (mrsM M (55 + 106 * r) f v w p m) 253 (55 + 106 * r + (26 + 20 * f + 4 * v + p)) 0 = mrsM M (55 + 106 * r) f v w (p + 1) m := by
        funext c i
        simp only [jU, mrsM]
        grind (splits := 30)
      rw [e]
      exact ih n (p + 1) (by omega) (by omega) (by omega)
theorem mdelS_RM {M : jM} {o id K f v w : Int} {F : rF} (h : RM M 253 o id K F) (hf : sFld f) (hv : 0 ≤ v) (hv1 : v < fL (F f)) (hw : 0 ≤ w) (hw1 : w < fS (F f) v) (h1 : fS (F f) v ≠ 1) : RM (mdelS M o f v w (fS (F f) v)) 253 o id K (uI F f (fDelS (F f) v w)) := by
  have l := h.len hf
  have s := h.sub hf hv hv1
  have s1 := s.1
  refine h.one hf (fun i i0 i1 n1 n2 n3 => ?_) ?_
  · simp only [mdelS, mrsM]
    grind (splits := 30)
  · refine (h.fr hf).delS hv (by rw [l.1]; exact hv1) hw (by show w < M 253 (o + 6 + 5 * f + v); rw [s.1]; exact hw1) (by show M 253 (o + 6 + 5 * f + v) ≠ 1; rw [s.1]; exact h1) ?_ (fun j j0 j1 jn => ?_) (fun j k j0 j1 jn k0 k1 => ?_) ?_ (fun k k0 k1 => ?_) (fun k k0 k1 => ?_)
    · simp only [mdelS, mrsM]
      grind (splits := 30)
    · simp only [mdelS, mrsM]
      grind (splits := 30)
    · rw [l.1] at j1
      simp only [mdelS, mrsM]
      grind (splits := 30)
    · show mdelS M o f v w (fS (F f) v) 253 (o + 6 + 5 * f + v) = M 253 (o + 6 + 5 * f + v) - 1
      rw [s1]
      simp [mdelS]
    · simp only [mdelS, mrsM]
      grind (splits := 30)
    · have k1 : k < fS (F f) v - 1 := by rw [← s1]; exact k1
      simp only [mdelS, mrsM]
      grind (splits := 30)
theorem goRemove_eq {N : Nat} {M : jM} {r id K f v w : Int} {F : rF} {k : Int → jM → Prop} (hN : 5000 ≤ N) (hr : sRec r) (h : RM M 253 (55 + 106 * r) id K F) (hf : sFld f) (hv : 0 ≤ v ∧ v < fL (F f)) (hw : w = -1 ∨ (0 ≤ w ∧ w < fS (F f) v))
    (H1 : (w = -1 ∨ fS (F f) v = 1) → k (fL (F f) - 1) (mdel M (55 + 106 * r) f v (fL (F f)))) (H2 : ¬ (w = -1 ∨ fS (F f) v = 1) → k (fL (F f)) (mdelS M (55 + 106 * r) f v w (fS (F f) v))) : w_X7_goRemove N M 252 r f v w k := by
  have l := h.len hf
  have s := h.sub hf hv.1 hv.2
  unfold w_X7_goRemove
  rw [subsOf_eq hr hf (by omega), s.1]
  have hdel : (w = -1 ∨ fS (F f) v = 1) → w_X7_dropsValue N M 252 r f v (fun M2 => (w_X7_valuesOf M2 252 r f (fun x3 => (k x3 M2)))) := by
    intro z
    refine dropsValue_eq hN hr h hf hv.1 hv.2 ?_
    have q := mdel_RM h hf hv.1 hv.2
    rw [valuesOf_eq hr q hf]
    have e : fL (uI F f (fDelV (F f) v) f) = fL (F f) - 1 := by
      rw [uI_self]
      have := (q.len hf).1
      rw [uI_self] at this
      rw [← this]
      simp [mdel]
    rw [e]
    exact H1 z
  by_cases z : w = -1
  · rw [if_pos (by omega)]
    exact hdel (Or.inl z)
  · rw [if_neg (by omega)]
    by_cases z1 : fS (F f) v = 1
    · rw [if_pos z1]
      exact hdel (Or.inr z1)
    · rw [if_neg z1]
      have e0 : mrsM M (55 + 106 * r) f v w w (fS (F f) v) = M := by
        funext c i
        unfold mrsM
        rw [if_neg (by omega)]
      have := remS_lp (M := M) (v := v) (w := w) (m := fS (F f) v) (kx := (fun (M8 : jM) => (w_X7_subsAt f v (fun x9 => (w_X7_lays M8 252 r x9 (jW (fS (F f) v - 1)) (fun M10 => (w_X7_valuesOf M10 252 r f (fun x11 => (k x11 M10))))))))) hr hf (by omega) (by omega) (by omega) ?_ (4 - w).toNat N w (by omega) (by omega) (by omega)
      · rw [e0] at this
        exact this
      · rw [subCell_eq hf (by omega), lays_eq hr (by omega), jW_id (by omega)]
        have e : jU (mrsM M (55 + 106 * r) f v w 4 (fS (F f) v)) 253 (55 + 106 * r + (6 + 5 * f + v)) (fS (F f) v - 1) = mdelS M (55 + 106 * r) f v w (fS (F f) v) := by
          funext c i
          simp only [jU, mdelS]
          rw [show 55 + 106 * r + (6 + 5 * f + v) = 55 + 106 * r + 6 + 5 * f + v by omega]
        rw [e]
        have q := mdelS_RM (w := w) h hf hv.1 hv.2 (by omega) (by omega) z1
        rw [valuesOf_eq hr q hf]
        have e : fL (uI F f (fDelS (F f) v w) f) = fL (F f) := by
          rw [uI_self]
          unfold fL fDelS
          rw [List.length_set]
        rw [e]
        exact H2 (fun y => y.elim z z1)
