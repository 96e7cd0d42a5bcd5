/-! THE REFERENCE READS A TEXT: its descent against the automaton; R: the automaton's answer, told ahead -/
theorem rdRun_none {st f num ng c p : Int} {F : rF} {T : List Int} (h : rdStep st f num ng F c = none) : rdRun st f num ng F (c :: T) p = (p, F) := by
  simp only [rdRun, h]
theorem rdRun_some {st f num ng c p st' f' num' ng' : Int} {F F' : rF} {T : List Int} (h : rdStep st f num ng F c = some (st', f', num', ng', F')) : rdRun st f num ng F (c :: T) p = rdRun st' f' num' ng' F' T (p + 1) := by
  simp only [rdRun, h]
/-! the last place of a field -/
theorem pl_lv {L : List (List Int)} {V : List Int} : lv (L ++ [V]) = L.length := by
  unfold lv fL
  simp
theorem pl_fV {L : List (List Int)} {V : List Int} : fV (L ++ [V]) (L.length : Int) = V := by
  unfold fV
  simp [List.getD_eq_getElem?_getD]
theorem pl_ls {L : List (List Int)} {V : List Int} : ls (L ++ [V]) = (V.length : Int) - 1 := by
  unfold ls fS
  rw [pl_lv, pl_fV]
theorem pl_set {L : List (List Int)} {V W : List Int} : (L ++ [V]).set L.length W = L ++ [W] := by
  rw [List.set_append_right _ _ (Nat.le_refl _), Nat.sub_self]
  rfl
theorem pl_chg {L : List (List Int)} {V : List Int} {x y : Int} : fChg (L ++ [V ++ [x]]) (lv (L ++ [V ++ [x]])) (ls (L ++ [V ++ [x]])) y = L ++ [V ++ [y]] := by
  rw [pl_lv, pl_ls]
  unfold fChg
  rw [pl_fV, Int.toNat_natCast, pl_set]
  have e : ((((V ++ [x]).length : Nat) : Int) - 1).toNat = V.length := by
    rw [List.length_append]
    simp
  rw [e, List.set_append_right _ _ (Nat.le_refl _), Nat.sub_self]
  rfl
theorem pl_insS {L : List (List Int)} {V : List Int} : fInsS (L ++ [V]) (lv (L ++ [V])) (ls (L ++ [V]) + 1) 0 = L ++ [V ++ [0]] := by
  rw [pl_lv, pl_ls]
  unfold fInsS
  rw [pl_fV, Int.toNat_natCast, pl_set, show ((V.length : Int) - 1 + 1).toNat = V.length by omega, List.insertIdx_length_self]
theorem pl_insV {L : List (List Int)} {V : List Int} : fInsV (L ++ [V]) (lv (L ++ [V]) + 1) 0 = L ++ [V] ++ [[0]] := by
  rw [pl_lv]
  unfold fInsV
  have e : ((L.length : Int) + 1).toNat = (L ++ [V]).length := by
    rw [List.length_append]
    simp
  rw [e, List.insertIdx_length_self]
theorem pl_new : fInsV [] 0 0 = [[0]] := rfl
/-! what the cells hold of the text; the reader's place -/
def TX (M : jM) (T : List Int) : Prop := M 252 5 = T.length ∧ T.length ≤ 90 ∧ ∀ (i : Nat) (x : Int), T[i]? = some x → M 256 i = x ∧ 32 ≤ x ∧ x ≤ 126
def tf (M M' : jM) : Prop := (∀ c : Int, c ≠ 252 → M' c = M c) ∧ ∀ i : Int, i ≠ 8 → i ≠ 9 → M' 252 i = M 252 i
theorem tf.rfl {M : jM} : tf M M := ⟨fun _ _ => Eq.refl _, fun _ _ _ => Eq.refl _⟩
theorem tf.tr {M M1 M2 : jM} (h : tf M M1) (g : tf M1 M2) : tf M M2 := ⟨fun c a => by rw [g.1 c a, h.1 c a], fun i a b => by rw [g.2 i a b, h.2 i a b]⟩
theorem tf.u8 {M : jM} {v : Int} : tf M (jU M 252 8 v) := ⟨fun c hc => jU_row hc, fun i h8 _ => jU_in h8⟩
theorem tf.u9 {M : jM} {v : Int} : tf M (jU M 252 9 v) := ⟨fun c hc => jU_row hc, fun i _ h9 => jU_in h9⟩
theorem tf.wf {M M' : jM} (h : tf M M') : wf M M' := ⟨fun c _ hc => h.1 c hc, fun i hi => h.2 i (by omega) (by omega)⟩
theorem TX.tf {M M' : jM} {T : List Int} (h : TX M T) (e : tf M M') : TX M' T := ⟨by rw [e.2 5 (by omega) (by omega)]; exact h.1, h.2.1, fun i x hi => by rw [e.1 256 (by omega)]; exact h.2.2 i x hi⟩
/-- at place p, well formed so far (m = 1) or not (m = 0) -/
def PS (M : jM) (p : Nat) (m : Int) : Prop := M 252 8 = (p : Int) ∧ M 252 9 = m
theorem here_eq {M : jM} {T : List Int} {p : Nat} {m : Int} (hT : TX M T) (hp : PS M p m) (k : Int → Prop) : w_X7_here M 252 k = k (T.getD p 0) := by
  unfold w_X7_here
  simp only [hp.1, hT.1, Int.reduceAdd]
  have h9 := hT.2.1
  by_cases z : p < T.length
  · rw [if_pos (by omega)]
    have e : T[p]? = some (T.getD p 0) := by
      rw [List.getD_eq_getElem?_getD, List.getElem?_eq_getElem z]
      rfl
    rw [(hT.2.2 p _ e).1]
    exact propext ⟨fun q => q.2, fun q => ⟨by omega, q⟩⟩
  · rw [if_neg (by omega)]
    have e : T.getD p 0 = 0 := by
      rw [List.getD_eq_getElem?_getD, List.getElem?_eq_none (by omega)]
      rfl
    rw [e]
theorem getD_some {T : List Int} {p : Nat} (h : T.getD p 0 ≠ 0) : T[p]? = some (T.getD p 0) ∧ p < T.length := by
  rcases Nat.lt_or_ge p T.length with z | z
  · exact ⟨by rw [List.getD_eq_getElem?_getD, List.getElem?_eq_getElem z]; rfl, z⟩
  · exact absurd (by rw [List.getD_eq_getElem?_getD, List.getElem?_eq_none z]; rfl) h
theorem takes1_k {M : jM} {p : Nat} {k : jM → Prop} (hp : PS M p 1) (hb : p ≤ 90) (H : ∀ M', tf M M' → PS M' (p + 1) 1 → k M') : w_X7_takes M 252 1 k := by
  unfold w_X7_takes
  rw [if_neg (by rw [hp.2]; decide), if_neg (by decide)]
  simp only [jL]
  have e9 : jU M 252 9 1 252 9 = 1 := by simp [jU]
  have e8 : jU M 252 9 1 252 8 = p := by rw [jU_in (by omega)]; exact hp.1
  rw [if_neg (by rw [e9]; decide), e8, jW_id (by omega)]
  exact H _ (tf.u9.tr tf.u8) ⟨by simp [jU], by rw [jU_in (by omega)]; exact e9⟩
theorem takes0_k {M : jM} {p : Nat} {k : jM → Prop} (hp : PS M p 1) (hb : p ≤ 90) (H : ∀ M', tf M M' → PS M' p 0 → k M') : w_X7_takes M 252 0 k := by
  unfold w_X7_takes
  rw [if_neg (by rw [hp.2]; decide), if_pos rfl]
  simp only [jL]
  have e9 : jU M 252 9 0 252 9 = 0 := by simp [jU]
  have e8 : jU M 252 9 0 252 8 = p := by rw [jU_in (by omega)]; exact hp.1
  rw [if_pos e9, e8, jW_id (by omega)]
  exact H _ (tf.u9.tr tf.u8) ⟨by simp [jU], by rw [jU_in (by omega)]; exact e9⟩
/-! a number -/
abbrev ND (T : List Int) (p : Nat) (x : Int) : Prop := ∀ c, T[p]? = some c → 48 ≤ c → c ≤ 57 → x = 0 ∨ 100 ≤ x.natAbs
/-- after a number: the automaton is in its stage 3 with x at the last place -/
def AN (T : List Int) (R : Int × rF) (F0 : rF) (f : Int) (L : List (List Int)) (V : List Int) (p : Nat) (x : Int) : Prop :=
  p ≤ T.length ∧ sNum x ∧ ND T p x ∧ ∃ (ng : Int) (F : rF), (∀ g, g ≠ f → F g = F0 g) ∧ F f = L ++ [V ++ [x]] ∧ rdRun 3 f x ng F (T.drop p) p = R
theorem tn_lp {M0 : jM} {T : List Int} {R : Int × rF} {F0 : rF} {f ng : Int} {L : List (List Int)} {V : List Int} {kx : Int → jM → Prop} (hT : TX M0 T) (hng : ng = 0 ∨ ng = 1)
    (H : ∀ (v : Int) (M' : jM) (p : Nat), tf M0 M' → PS M' p 1 → AN T R F0 f L V p (if ng = 0 then v else -v) → 0 ≤ v → kx v M') :
    ∀ (d n p : Nat) (v : Int) (M : jM) (F : rF), d < n → p + d = T.length → tf M0 M → PS M p 1 → 0 ≤ v → v ≤ 999 → (∀ g, g ≠ f → F g = F0 g) → F f = L ++ [V ++ [if ng = 0 then v else -v]] → rdRun 3 f (if ng = 0 then v else -v) ng F (T.drop p) p = R → lp_X7_takesNumber_56 252 kx n v M := by
  have h90 := hT.2.1
  intro d
  induction d with
  | zero =>
    intro n p v M F hn hp ht hps v0 v9 hF hFf hR
    obtain ⟨n, rfl⟩ : ∃ m, n = m + 1 := ⟨n - 1, by omega⟩
    have e0 : T.getD p 0 = 0 := by
      rw [List.getD_eq_getElem?_getD, List.getElem?_eq_none (by omega)]
      rfl
    have hend : kx v M := H v M p ht hps ⟨by omega, by split <;> omega, fun c hc => by rw [List.getElem?_eq_none (by omega)] at hc; simp at hc, ng, F, hF, hFf, hR⟩ v0
    rw [lp_X7_takesNumber_56, if_neg (by rw [hps.2]; decide)]
    by_cases z : v ≤ 0
    · rw [if_pos z]
      exact hend
    · rw [if_neg z, here_eq (hT.tf ht) hps, e0, in_eq, if_neg (show ¬ (48 ≤ (0 : Int) ∧ (0 : Int) ≤ 57) by decide), if_pos rfl]
      exact hend
  | succ d ih =>
    intro n p v M F hn hp ht hps v0 v9 hF hFf hR
    obtain ⟨n, rfl⟩ : ∃ m, n = m + 1 := ⟨n - 1, by omega⟩
    have hx : T[p]? = some (T.getD p 0) := by
      rw [List.getD_eq_getElem?_getD, List.getElem?_eq_getElem (by omega)]
      rfl
    have hc := (hT.2.2 p _ hx).2
    have hend : ND T p (if ng = 0 then v else -v) → kx v M := fun z => H v M p ht hps ⟨by omega, by split <;> omega, z, ng, F, hF, hFf, hR⟩ v0
    have nd : (v = 0 ∨ 100 ≤ v ∨ ¬ (48 ≤ T.getD p 0 ∧ T.getD p 0 ≤ 57)) → ND T p (if ng = 0 then v else -v) := fun z c hc c0 c1 => by
      have : c = T.getD p 0 := by rw [hx] at hc; simpa using hc.symm
      subst this
      split <;> omega
    rw [lp_X7_takesNumber_56, if_neg (by rw [hps.2]; decide)]
    by_cases z : v ≤ 0
    · rw [if_pos z]
      exact hend (nd (Or.inl (by omega)))
    · rw [if_neg z, here_eq (hT.tf ht) hps, in_eq]
      by_cases z2 : 48 ≤ T.getD p 0 ∧ T.getD p 0 ≤ 57
      · rw [if_pos z2, if_neg (by decide), here_eq (hT.tf ht) hps, jW_id (a := 10 * v) (by omega), jW_id (a := 10 * v + T.getD p 0) (by omega), jW_id (a := 10 * v + T.getD p 0 - 48) (by omega)]
        by_cases z3 : 10 * v + T.getD p 0 - 48 ≤ 999
        · rw [if_pos z3, here_eq (hT.tf ht) hps]
          simp only [jL]
          rw [jW_id (a := 10 * v + T.getD p 0) (by omega), jW_id (a := 10 * v + T.getD p 0 - 48) (by omega), hps.1, jW_id (by omega)]
          have enew : rNew (if ng = 0 then v else -v) ng (T.getD p 0 - 48) = if ng = 0 then 10 * v + T.getD p 0 - 48 else -(10 * v + T.getD p 0 - 48) := by
            unfold rNew
            split <;> omega
          have hstep : rdStep 3 f (if ng = 0 then v else -v) ng F (T.getD p 0) = some (rDig f (if ng = 0 then v else -v) ng F (T.getD p 0 - 48)) := by
            unfold rdStep
            rw [if_pos z2, if_neg (by decide), if_pos rfl, if_neg (by split <;> omega)]
          rw [drop_at hx] at hR
          unfold rDig at hstep
          rw [rdRun_some hstep, enew] at hR
          refine ih n (p + 1) _ _ (uI F f (fChg (F f) (lv (F f)) (ls (F f)) (if ng = 0 then 10 * v + T.getD p 0 - 48 else -(10 * v + T.getD p 0 - 48)))) (by omega) (by omega) (ht.tr tf.u8) ⟨by simp [jU], by rw [jU_in (by omega)]; exact hps.2⟩ (by omega) z3 (fun g hg => by rw [uI_ne hg]; exact hF g hg) ?_ hR
          rw [uI_self, hFf, pl_chg]
        · rw [if_neg z3]
          exact hend (nd (Or.inr (Or.inl (by omega))))
      · rw [if_neg z2, if_pos rfl]
        exact hend (nd (Or.inr (Or.inr z2)))
/-- the first digit and what follows; lo: the least digit that may stand here -/
theorem tn_tail {N : Nat} {M0 M : jM} {T : List Int} {R : Int × rF} {F0 F1 : rF} {f ng lo : Int} {L : List (List Int)} {V : List Int} {p : Nat} {kx : Int → jM → Prop} (hN : 5000 ≤ N) (hT : TX M0 T) (hng : ng = 0 ∨ ng = 1) (ht : tf M0 M) (hps : PS M p 1) (hpl : p ≤ T.length) (hlo : 0 ≤ lo)
    (hF1 : ∀ g, g ≠ f → F1 g = F0 g) (hyes : ∀ c, T[p]? = some c → lo + 48 ≤ c → c ≤ 57 → F1 f = L ++ [V ++ [0]] ∧ rdRun 3 f (if ng = 0 then c - 48 else -(c - 48)) ng (uI F1 f (L ++ [V ++ [if ng = 0 then c - 48 else -(c - 48)]])) (T.drop (p + 1)) ((p : Int) + 1) = R) (hno : ¬ (lo + 48 ≤ T.getD p 0 ∧ T.getD p 0 ≤ 57) → R.1 = p)
    (H : ∀ (v : Int) (M' : jM) (q : Nat), tf M0 M' → PS M' q 1 → AN T R F0 f L V q (if ng = 0 then v else -v) → 0 ≤ v → kx v M')
    (H0 : ∀ (v : Int) (M' : jM), tf M0 M' → PS M' p 0 → R.1 = p → jR v → kx v M') :
    w_X7_here M 252 (fun x6 => (jL (jW (x6 - 48)) (fun x7 => (w_X7_in x7 lo 9 (fun x10 => (w_X7_takes M 252 x10 (fun M11 => (lp_X7_takesNumber_56 252 kx N x7 M11)))))))) := by
  have h90 := hT.2.1
  rw [here_eq (hT.tf ht) hps]
  have hcb : T.getD p 0 = 0 ∨ (32 ≤ T.getD p 0 ∧ T.getD p 0 ≤ 126) := by
    by_cases z : T.getD p 0 = 0
    · exact Or.inl z
    · exact Or.inr (hT.2.2 p _ (getD_some z).1).2
  simp only [jL]
  rw [jW_id (by omega), in_eq]
  by_cases z : lo + 48 ≤ T.getD p 0 ∧ T.getD p 0 ≤ 57
  · rw [if_pos (by omega)]
    obtain ⟨hx, hlt⟩ := getD_some (T := T) (p := p) (by omega)
    obtain ⟨y1, y2⟩ := hyes _ hx z.1 z.2
    refine takes1_k hps (by omega) (fun M1 f1 hp1 => ?_)
    refine tn_lp (F0 := F0) (R := R) (L := L) (V := V) hT hng H (T.length - (p + 1)) N (p + 1) _ M1 (uI F1 f (L ++ [V ++ [if ng = 0 then T.getD p 0 - 48 else -(T.getD p 0 - 48)]])) (by omega) (by omega) (ht.tr f1) hp1 (by omega) (by omega) (fun g hg => by rw [uI_ne hg]; exact hF1 g hg) (uI_self _ _ _) ?_
    exact y2
  · rw [if_neg (by omega)]
    refine takes0_k hps (by omega) (fun M1 f1 hp1 => ?_)
    obtain ⟨N', rfl⟩ : ∃ m, N = m + 1 := ⟨N - 1, by omega⟩
    rw [lp_X7_takesNumber_56, if_pos hp1.2]
    exact H0 _ M1 (ht.tr f1) hp1 (hno z) ⟨by omega, by omega⟩
/-- before a number: a field that is not begun, or a new place -/
def BN (T : List Int) (R : Int × rF) (F : rF) (f : Int) (L : List (List Int)) (V : List Int) (p : Nat) : Prop :=
  p ≤ T.length ∧ ∃ st num ng : Int, rdRun st f num ng F (T.drop p) p = R ∧ ((st = 0 ∧ F f = [] ∧ L = [] ∧ V = [] ∧ p < T.length ∧ T.getD p 0 ≠ 94) ∨ (st = 1 ∧ F f = L ++ [V ++ [0]]))
theorem tn_k {N : Nat} {M0 : jM} {T : List Int} {R : Int × rF} {F : rF} {f : Int} {L : List (List Int)} {V : List Int} {p : Nat} {k : Int → jM → Prop} (hN : 5000 ≤ N) (hT : TX M0 T) (hps : PS M0 p 1) (hB : BN T R F f L V p)
    (H : ∀ (x : Int) (M' : jM) (q : Nat), tf M0 M' → PS M' q 1 → AN T R F f L V q x → k x M')
    (H0 : ∀ (x : Int) (M' : jM) (q : Nat), q ≤ T.length → tf M0 M' → PS M' q 0 → R.1 = q → k x M') : w_X7_takesNumber N M0 252 k := by
  have h90 := hT.2.1
  obtain ⟨hpl, st, num, ng, hR, hst⟩ := hB
  have hb : (st = 0 ∨ st = 1) ∧ (rBeg st f F) f = L ++ [V ++ [0]] ∧ (∀ g, g ≠ f → rBeg st f F g = F g) := by
    rcases hst with ⟨rfl, a, rfl, rfl, -, -⟩ | ⟨rfl, a⟩
    · refine ⟨Or.inl rfl, ?_, fun g hg => ?_⟩
      · unfold rBeg
        rw [if_pos rfl, uI_self, a, pl_new]
        rfl
      · unfold rBeg
        rw [if_pos rfl, uI_ne hg]
    · refine ⟨Or.inr rfl, ?_, fun g hg => ?_⟩
      · unfold rBeg
        rw [if_neg (by decide), a]
      · unfold rBeg
        rw [if_neg (by decide)]
  unfold w_X7_takesNumber
  rw [here_eq hT hps]
  by_cases z : T.getD p 0 = 45
  · simp only [jL]
    rw [if_pos z]
    obtain ⟨hx, hlt⟩ := getD_some (T := T) (p := p) (by omega)
    rw [z] at hx
    have hstep : rdStep st f num ng F 45 = some (2, f, 0, 1, rBeg st f F) := by
      unfold rdStep
      rw [if_neg (by decide), if_pos rfl, if_pos hb.1]
    rw [drop_at hx, rdRun_some hstep] at hR
    rw [if_neg (by decide), hps.1, jW_id (by omega)]
    simp only [if_neg (show ¬ (1 : Int) = 0 by decide)]
    have hps1 : PS (jU M0 252 8 ((p : Int) + 1)) (p + 1) 1 := ⟨by simp [jU], by rw [jU_in (by omega)]; exact hps.2⟩
    have := tn_tail (N := N) (R := R) (F0 := F) (F1 := rBeg st f F) (f := f) (ng := 1) (lo := 1) (L := L) (V := V) (p := p + 1) (kx := fun x14 M15 => k (jW (-x14)) M15) hN hT (Or.inr rfl) tf.u8 hps1 (by omega) (by decide) hb.2.2 (fun c hc c0 c1 => ⟨hb.2.1, ?_⟩) (fun q => ?_) (fun v M' q a b e v0 => ?_) (fun v M' a b e hv => ?_)
    · simpa only [jL] using this
    · have hs : rdStep 2 f 0 1 (rBeg st f F) c = some (rDig f 0 1 (rBeg st f F) (c - 48)) := by
        unfold rdStep
        rw [if_pos (by omega), if_pos rfl, if_neg (by omega)]
      unfold rDig at hs
      rw [drop_at hc, rdRun_some hs, hb.2.1, pl_chg, show rNew 0 1 (c - 48) = -(c - 48) by unfold rNew; rw [if_neg (by decide)]; omega] at hR
      rw [if_neg (by decide)]
      exact hR
    · by_cases w : T.getD (p + 1) 0 = 0
      · have hlen : T.length ≤ p + 1 := by
          rcases Nat.lt_or_ge (p + 1) T.length with y | y
          · have e : T[p + 1]? = some (T.getD (p + 1) 0) := by
              rw [List.getD_eq_getElem?_getD, List.getElem?_eq_getElem y]
              rfl
            have := (hT.2.2 _ _ e).2
            omega
          · exact y
        rw [List.drop_of_length_le hlen] at hR
        rw [← hR]
        simp only [rdRun]
        rw [if_neg (by omega)]
        omega
      · obtain ⟨hc, hlt2⟩ := getD_some w
        have hs : rdStep 2 f 0 1 (rBeg st f F) (T.getD (p + 1) 0) = none := by
          unfold rdStep
          by_cases y : 48 ≤ T.getD (p + 1) 0 ∧ T.getD (p + 1) 0 ≤ 57
          · rw [if_pos y, if_pos rfl, if_pos (by omega)]
          · rw [if_neg y]
            simp
        rw [drop_at hc, rdRun_none hs] at hR
        rw [← hR]
        show (p : Int) + 1 = _
        omega
    · rw [if_neg (by decide)] at e
      rw [jW_id (by have := e.2.1; omega)]
      exact H (-v) M' q a b e
    · exact H0 _ M' _ (by omega) a b e
  · simp only [jL]
    rw [if_neg z]
    simp only [if_pos]
    have := tn_tail (N := N) (R := R) (F0 := F) (F1 := rBeg st f F) (f := f) (ng := 0) (lo := 0) (L := L) (V := V) (p := p) (kx := fun x14 M15 => k x14 M15) hN hT (Or.inl rfl) tf.rfl hps hpl (by decide) hb.2.2 (fun c hc c0 c1 => ⟨hb.2.1, ?_⟩) (fun q => ?_) (fun v M' q a b e v0 => ?_) (fun v M' a b e hv => ?_)
    · simpa only [jL] using this
    · have hs : rdStep st f num ng F c = some (rDig f 0 0 (rBeg st f F) (c - 48)) := by
        unfold rdStep
        rw [if_pos (by omega), if_neg (by omega), if_neg (by omega)]
      unfold rDig at hs
      rw [drop_at hc, rdRun_some hs, hb.2.1, pl_chg, show rNew 0 0 (c - 48) = c - 48 by unfold rNew; rw [if_pos rfl]; omega] at hR
      rw [if_pos rfl]
      exact hR
    · by_cases w : T.getD p 0 = 0
      · have hlen : T.length ≤ p := by
          rcases Nat.lt_or_ge p T.length with y | y
          · have e : T[p]? = some (T.getD p 0) := by
              rw [List.getD_eq_getElem?_getD, List.getElem?_eq_getElem y]
              rfl
            have := (hT.2.2 _ _ e).2
            omega
          · exact y
        rcases hst with ⟨rfl, a, b, c, e, e2⟩ | ⟨rfl, a⟩
        · omega
        · rw [List.drop_of_length_le hlen] at hR
          rw [← hR]
          simp only [rdRun]
          rw [if_neg (by omega)]
      · obtain ⟨hc, hlt2⟩ := getD_some w
        have hs : rdStep st f num ng F (T.getD p 0) = none := by
          unfold rdStep
          rw [if_neg (by omega), if_neg z]
          rcases hst with ⟨rfl, a, b, c, e, e2⟩ | ⟨rfl, a⟩
          · rw [if_neg e2]
            simp
          · simp
        rw [drop_at hc, rdRun_none hs] at hR
        rw [← hR]
    · rw [if_pos rfl] at e
      exact H v M' q a b e
    · exact H0 _ M' _ (by omega) a b e
