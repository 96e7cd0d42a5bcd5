/-! the other changes of a record, and what they make of its fields -/
theorem setNumber_eq {M : jM} {r f v w x : Int} (hf : sFld f) (hv : 0 ≤ v ∧ v < 5) (hw : 0 ≤ w ∧ w < 4) (k : jM → Prop) : w_X1_setNumber M r f v w x k = k (jU M (r + 3) (20 * f + 4 * v + w) x) := by
  unfold w_X1_setNumber
  simp (disch := omega) only [jW_id, jL, jB]
  rw [show f * 20 + v * 4 + w = 20 * f + 4 * v + w by omega]
  simp only [eq_iff_iff, and_iff_right_iff_imp]
  intro _; omega
theorem numberAt_eq {M : jM} {r f v w : Int} (hf : sFld f) (hv : 0 ≤ v ∧ v < 5) (hw : 0 ≤ w ∧ w < 4) (k : Int → Prop) : w_X1_numberOf M r f v w k = k (M (r + 3) (20 * f + 4 * v + w)) := by
  unfold w_X1_numberOf
  simp (disch := omega) only [jW_id, jB]
  rw [show f * 20 + v * 4 + w = 20 * f + 4 * v + w by omega]
  simp only [eq_iff_iff, and_iff_right_iff_imp]
  intro _; omega
theorem countAt_eq {M : jM} {r f v : Int} (hf : sFld f) (hv : 0 ≤ v ∧ v < 5) (k : Int → Prop) : w_X1_subCount M r f v k = k (M (r + 2) (5 * f + v)) := by
  unfold w_X1_subCount
  simp (disch := omega) only [jW_id, jB]
  rw [show f * 5 + v = 5 * f + v by omega]
  simp only [eq_iff_iff, and_iff_right_iff_imp]
  intro _; omega
def usC (M : jM) (r f v w p : Int) : jM := fun c i => if c = r + 3 ∧ 20 * f + 4 * v + w < i ∧ i ≤ 20 * f + 4 * v + p then M c (i - 1) else M c i
theorem addSub_lp {r f v w : Int} {kx : jM → Prop} (hf : sFld f) (hv : 0 ≤ v ∧ v < 5) (hw : 0 ≤ w) : ∀ (d n : Nat) (p : Int) (M : jM), d < n → p = w + d → p < 4 → kx (usC M r f v w p) → lp_X1_addSub_19 r f v w kx n p M := by
  intro d
  induction d with
  | zero =>
    intro n p M hn hp h5 h
    obtain ⟨n, rfl⟩ : ∃ m, n = m + 1 := ⟨n - 1, by omega⟩
    rw [lp_X1_addSub_19, if_pos (by omega)]
    have e : usC M r f v w p = M := by
      funext c i
      unfold usC
      grind
    rw [e] at h
    exact h
  | succ d ih =>
    intro n p M hn hp h5 h
    obtain ⟨n, rfl⟩ : ∃ m, n = m + 1 := ⟨n - 1, by omega⟩
    rw [lp_X1_addSub_19, if_neg (by omega)]
    simp (disch := omega) only [jW_id, jL]
    rw [numberAt_eq hf hv (by omega), setNumber_eq hf hv (by omega)]
    refine ih n (p + -1) _ (by omega) (by omega) (by omega) ?_
    have e : usC (jU M (r + 3) (20 * f + 4 * v + p) (M (r + 3) (20 * f + 4 * v + (p - 1)))) r f v w (p + -1) = usC M r f v w p := by
      funext c i
      simp only [usC, jU]
      grind (splits := 40)
    rw [e]
    exact h
def insS (M : jM) (r f v w m x : Int) : jM := fun c i => if c = r + 2 ∧ i = 5 * f + v then m + 1 else if c = r + 3 ∧ i = 20 * f + 4 * v + w then x else if c = r + 3 ∧ 20 * f + 4 * v + w < i ∧ i ≤ 20 * f + 4 * v + m then M c (i - 1) else M c i
theorem addSub_eq {N : Nat} {M : jM} {r f v w x m : Int} (hN : 100 ≤ N) (hf : sFld f) (hv : 0 ≤ v ∧ v < 5) (hm : M (r + 2) (5 * f + v) = m) (hw : 0 ≤ w) (hw1 : w ≤ m) (hm4 : m < 4) {k : jM → Prop} (h : k (insS M r f v w m x)) : w_X1_addSub N M r f v w x k := by
  unfold w_X1_addSub
  rw [countAt_eq hf hv, hm, if_pos hm4]
  refine addSub_lp hf hv hw (m - w).toNat N m M (by omega) (by omega) (by omega) ?_
  simp (disch := omega) only [jW_id, jL, jB]
  refine ⟨by omega, ?_⟩
  rw [setNumber_eq hf hv (by omega)]
  have e : jU (jU (usC M r f v w m) (r + 2) (f * 5 + v) (m + 1)) (r + 3) (20 * f + 4 * v + w) x = insS M r f v w m x := by
    funext c i
    simp only [jU, usC, insS]
    grind (splits := 40)
  rw [e]
  exact h
def dnC (M : jM) (r f v p : Int) : jM := fun c i => if c = r + 2 ∧ 5 * f + v ≤ i ∧ i < 5 * f + p then M c (i + 1) else if c = r + 3 ∧ 20 * f + 4 * v ≤ i ∧ i < 20 * f + 4 * p then M c (i + 4) else M c i
theorem dropValue_lp {r f m : Int} {kx : jM → Prop} (hf : sFld f) (hm : m ≤ 5) : ∀ (d n : Nat) (p v : Int) (M : jM), d < n → p = m - d → M (r + 1) f = m → v = p - 1 → 0 ≤ v → kx (dnC M r f v (m - 1)) → lp_X1_dropValue_4 r f kx n p M := by
  intro d
  induction d with
  | zero =>
    intro n p v M hn hp h5 hv h0 h
    obtain ⟨n, rfl⟩ : ∃ m, n = m + 1 := ⟨n - 1, by omega⟩
    rw [lp_X1_dropValue_4, if_neg (by omega)]
    refine ⟨hf, ?_⟩
    have e : dnC M r f v (m - 1) = M := by
      funext c i
      unfold dnC
      grind
    rw [e] at h
    exact h
  | succ d ih =>
    intro n p v M hn hp h5 hv h0 h
    obtain ⟨n, rfl⟩ : ∃ m, n = m + 1 := ⟨n - 1, by omega⟩
    rw [lp_X1_dropValue_4, if_pos (by omega)]
    simp (disch := omega) only [jW_id, jL]
    rw [moveValue_eq hf (by omega) (by omega)]
    have e0 : mvC M r f p (p - 1) (r + 1) f = m := by
      unfold mvC
      grind
    refine ⟨hf, ih n (p + 1) p _ (by omega) (by omega) e0 (by omega) (by omega) ?_⟩
    have e : dnC (mvC M r f p (p - 1)) r f p (m - 1) = dnC M r f v (m - 1) := by
      funext c i
      simp only [dnC, mvC]
      grind (splits := 40)
    rw [e]
    exact h
def delC (M : jM) (r f v m : Int) : jM := fun c i => if c = r + 1 ∧ i = f then m - 1 else dnC M r f v (m - 1) c i
theorem dropValue_eq {N : Nat} {M : jM} {r f v m : Int} (hN : 100 ≤ N) (hf : sFld f) (hv : 0 ≤ v) (hm : M (r + 1) f = m) (hv1 : v < m) (hm5 : m ≤ 5) {k : jM → Prop} (h : k (delC M r f v m)) : w_X1_dropValue N M r f v k := by
  unfold w_X1_dropValue
  simp (disch := omega) only [jW_id, jL]
  refine dropValue_lp hf hm5 (m - 1 - v).toNat N (v + 1) v M (by omega) (by omega) hm (by omega) hv ?_
  have e1 : dnC M r f v (m - 1) (r + 1) f = m := by
    unfold dnC
    grind
  rw [e1]
  simp (disch := omega) only [jW_id]
  refine ⟨hf, hf, ?_⟩
  have e : jU (dnC M r f v (m - 1)) (r + 1) f (m - 1) = delC M r f v m := by
    funext c i
    simp only [jU, delC]
  rw [e]
  exact h
def dsC (M : jM) (r f v w p : Int) : jM := fun c i => if c = r + 3 ∧ 20 * f + 4 * v + w ≤ i ∧ i < 20 * f + 4 * v + p then M c (i + 1) else M c i
theorem dropSub_lp {r f v m : Int} {kx : jM → Prop} (hf : sFld f) (hv : 0 ≤ v ∧ v < 5) (hm : m ≤ 4) : ∀ (d n : Nat) (p w : Int) (M : jM), d < n → p = m - d → w = p - 1 → 0 ≤ w → kx (dsC M r f v w (m - 1)) → lp_X1_dropSub_13 r f v m kx n p M := by
  intro d
  induction d with
  | zero =>
    intro n p w M hn hp hw h0 h
    obtain ⟨n, rfl⟩ : ∃ m, n = m + 1 := ⟨n - 1, by omega⟩
    rw [lp_X1_dropSub_13, if_neg (by omega)]
    have e : dsC M r f v w (m - 1) = M := by
      funext c i
      unfold dsC
      grind
    rw [e] at h
    exact h
  | succ d ih =>
    intro n p w M hn hp hw h0 h
    obtain ⟨n, rfl⟩ : ∃ m, n = m + 1 := ⟨n - 1, by omega⟩
    rw [lp_X1_dropSub_13, if_pos (by omega)]
    simp (disch := omega) only [jW_id, jL]
    rw [numberAt_eq hf hv (by omega), setNumber_eq hf hv (by omega)]
    refine ih n (p + 1) p _ (by omega) (by omega) (by omega) (by omega) ?_
    have e : dsC (jU M (r + 3) (20 * f + 4 * v + (p - 1)) (M (r + 3) (20 * f + 4 * v + p))) r f v p (m - 1) = dsC M r f v w (m - 1) := by
      funext c i
      simp only [dsC, jU]
      grind (splits := 40)
    rw [e]
    exact h
def delS (M : jM) (r f v w m : Int) : jM := fun c i => if c = r + 2 ∧ i = 5 * f + v then m - 1 else dsC M r f v w (m - 1) c i
theorem dropSub_eq {N : Nat} {M : jM} {r f v w m : Int} (hN : 100 ≤ N) (hf : sFld f) (hv : 0 ≤ v ∧ v < 5) (hm : M (r + 2) (5 * f + v) = m) (hw : 0 ≤ w) (hw1 : w < m) (hm4 : m ≤ 4) {k : jM → Prop} (h : k (delS M r f v w m)) : w_X1_dropSub N M r f v w k := by
  unfold w_X1_dropSub
  rw [countAt_eq hf hv, hm]
  simp (disch := omega) only [jW_id, jL]
  refine dropSub_lp hf hv hm4 (m - 1 - w).toNat N (w + 1) w M (by omega) (by omega) (by omega) hw ?_
  simp (disch := omega) only [jB]
  refine ⟨by omega, ?_⟩
  have e : jU (dsC M r f v w (m - 1)) (r + 2) (f * 5 + v) (m - 1) = delS M r f v w m := by
    funext c i
    simp only [jU, delS, dsC]
    grind
  rw [e]
  exact h
/-! what they make of the fields -/
theorem RF.one {M M' : jM} {r f : Int} {F : Int → List (List Int)} {L : List (List Int)} (h : RF M r F) (hL : FR L (M' (r + 1) f) (fun v => M' (r + 2) (5 * f + v)) (fun v k => M' (r + 3) (20 * f + 4 * v + k)))
    (h1 : ∀ g : Int, sFld g → g ≠ f → M' (r + 1) g = M (r + 1) g) (h2 : ∀ g v : Int, sFld g → g ≠ f → 0 ≤ v → v < 5 → M' (r + 2) (5 * g + v) = M (r + 2) (5 * g + v)) (h3 : ∀ g v k : Int, sFld g → g ≠ f → 0 ≤ v → v < 5 → 0 ≤ k → k < 4 → M' (r + 3) (20 * g + 4 * v + k) = M (r + 3) (20 * g + 4 * v + k)) : RF M' r (uI F f L) := by
  intro g g0 g1
  unfold uI
  by_cases e : g = f
  · subst e
    rw [if_pos rfl]
    exact hL
  · rw [if_neg e]
    have q := h g g0 g1
    have ql := q.len
    refine q.congr (h1 g ⟨g0, g1⟩ e) (fun v v0 v1 => h2 g v ⟨g0, g1⟩ e v0 (by omega)) (fun v k v0 v1 k0 k1 => h3 g v k ⟨g0, g1⟩ e v0 (by omega) k0 ?_)
    have := (q.val v0 v1).2
    omega
theorem insC_RF {M : jM} {r f v x : Int} {F : Int → List (List Int)} (h : RF M r F) (hf : sFld f) (hv : 0 ≤ v) (hv1 : v ≤ fL (F f)) (h5 : fL (F f) < 5) (hx : sNum x) : RF (insC M r f v (fL (F f)) x) r (uI F f (fInsV (F f) v x)) := by
  have e := h.len hf
  refine h.one ((h f hf.1 hf.2).insV hv (by omega) (by omega) hx ?_ ?_ ?_ ?_ ?_ ?_ ?_) ?_ ?_ ?_ <;> (intros; simp only [insC]; grind (splits := 30))
theorem insS_RF {M : jM} {r f v w x : Int} {F : Int → List (List Int)} (h : RF M r F) (hf : sFld f) (hv : 0 ≤ v) (hv1 : v < fL (F f)) (hw : 0 ≤ w) (hw1 : w ≤ fS (F f) v) (h4 : fS (F f) v < 4) (hx : sNum x) : RF (insS M r f v w (fS (F f) v) x) r (uI F f (fInsS (F f) v w x)) := by
  have e := h.len hf
  have e2 := h.sub hf hv hv1
  refine h.one ((h f hf.1 hf.2).insS hv (by omega) hw (by omega) (by omega) hx ?_ ?_ ?_ ?_ ?_ ?_ ?_) ?_ ?_ ?_ <;> (intros; simp only [insS]; grind (splits := 30))
theorem chg_RF {M : jM} {r f v w x : Int} {F : Int → List (List Int)} (h : RF M r F) (hf : sFld f) (hv : 0 ≤ v) (hv1 : v < fL (F f)) (hw : 0 ≤ w) (hw1 : w < fS (F f) v) (hx : sNum x) : RF (jU M (r + 3) (20 * f + 4 * v + w) x) r (uI F f (fChg (F f) v w x)) := by
  have e := h.len hf
  have e2 := h.sub hf hv hv1
  refine h.one ((h f hf.1 hf.2).chg hv (by omega) hw (by omega) hx ?_ ?_ ?_ ?_) ?_ ?_ ?_ <;> (intros; simp only [jU]; grind (splits := 30))
theorem delC_RF {M : jM} {r f v : Int} {F : Int → List (List Int)} (h : RF M r F) (hf : sFld f) (hv : 0 ≤ v) (hv1 : v < fL (F f)) : RF (delC M r f v (fL (F f))) r (uI F f (fDelV (F f) v)) := by
  have e := h.len hf
  refine h.one ((h f hf.1 hf.2).delV hv (by omega) ?_ ?_ ?_ ?_ ?_) ?_ ?_ ?_ <;> (intros; simp only [delC, dnC]; grind (splits := 30))
theorem delS_RF {M : jM} {r f v w : Int} {F : Int → List (List Int)} (h : RF M r F) (hf : sFld f) (hv : 0 ≤ v) (hv1 : v < fL (F f)) (hw : 0 ≤ w) (hw1 : w < fS (F f) v) (h1 : fS (F f) v ≠ 1) : RF (delS M r f v w (fS (F f) v)) r (uI F f (fDelS (F f) v w)) := by
  have e := h.len hf
  have e2 := h.sub hf hv hv1
  refine h.one ((h f hf.1 hf.2).delS hv (by omega) hw (by omega) (by omega) ?_ ?_ ?_ ?_ ?_ ?_) ?_ ?_ ?_ <;> (intros; simp only [delS, dsC]; grind (splits := 30))
/-- the cells that a record's change leaves alone -/
theorem insC_row {M : jM} {r f v m x c : Int} (h1 : c ≠ r + 1) (h2 : c ≠ r + 2) (h3 : c ≠ r + 3) : insC M r f v m x c = M c := by funext i; simp [insC, h1, h2, h3]
theorem insS_row {M : jM} {r f v w m x c : Int} (h2 : c ≠ r + 2) (h3 : c ≠ r + 3) : insS M r f v w m x c = M c := by funext i; simp [insS, h2, h3]
theorem delC_row {M : jM} {r f v m c : Int} (h1 : c ≠ r + 1) (h2 : c ≠ r + 2) (h3 : c ≠ r + 3) : delC M r f v m c = M c := by funext i; simp [delC, dnC, h1, h2, h3]
theorem delS_row {M : jM} {r f v w m c : Int} (h2 : c ≠ r + 2) (h3 : c ≠ r + 3) : delS M r f v w m c = M c := by funext i; simp [delS, dsC, h2, h3]
