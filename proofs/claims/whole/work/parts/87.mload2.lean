/-! a field, the whole text; fault, load of the reference -/
theorem tfd_lp {N : Nat} {M0 : jM} {T : List Int} {R : Int × rF} {r f : Int} {F0 : rF} {kx : Int → jM → Prop} (hN : 5000 ≤ N) (hT : TX M0 T) (hr : r < 0 ∨ (sRec r ∧ R.1 = -1000007)) (hf : sFld f) (hG : ∀ g : Int, 0 ≤ g → g < f → fOK (F0 g))
    (H : ∀ (M' : jM) (L : List (List Int)) (q : Nat) (F : rF) (num ng : Int), ST r M0 M' f F L [] → (∀ g, g ≠ f → F g = F0 g) → PS M' q 1 → q ≤ T.length → fOK L → F f = L → rdRun 3 f num ng F (T.drop q) q = R → (∀ c, T[q]? = some c → c ≠ 94 → rdStep 3 f num ng F c = none) → kx L.length M')
    (H0 : ∀ (z : Int) (M' : jM) (q : Nat), r < 0 → q ≤ T.length → tf M0 M' → PS M' q 0 → R.1 = q → kx z M') :
    ∀ (d n p : Nat) (L : List (List Int)) (M : jM) (F : rF), L.length + d = 4 → d + 1 < n → ST r M0 M f F L [] → (∀ g, g ≠ f → F g = F0 g) → PS M p 1 → fOK L → BN T R F f L [] p → lp_X7_takesField_29 N 252 r f kx n L.length 1 M := by
  have h90 := hT.2.1
  intro d
  induction d using Nat.strongRecOn with
  | ind d ih =>
  intro n p L M F hd hn hST hF hps hL hB
  obtain ⟨n, rfl⟩ : ∃ m, n = m + 1 + 1 := ⟨n - 2, by omega⟩
  have hGF : ∀ g : Int, 0 ≤ g → g < f → fOK (F g) := fun g a b => by rw [hF g (by omega)]; exact hG g a b
  rw [lp_X7_takesField_29, if_neg (by decide)]
  unfold w_X7_takesValue
  refine tv_lp (F0 := F) hN hT hr hf hL (by omega) hGF (fun M1 V q F1 num ng hS1 hF1 hp1 hql hV hF1f hR hstop => ?_) (fun z M1 q hrn hql f1 hp1 e => ?_) 3 N p [] M F (by simp) (by omega) hST (fun _ _ => rfl) hps (fun x hx => by simp at hx) hB
  · have hF1' : ∀ g, g ≠ f → F1 g = F0 g := fun g hg => by rw [hF1 g hg]; exact hF g hg
    have hG1 : ∀ g : Int, 0 ≤ g → g < f → fOK (F1 g) := fun g a b => by rw [hF1' g (by omega)]; exact hG g a b
    have hlen : ((L ++ [V]).length : Int) = (L.length : Int) + 1 := by simp
    have hlok : fOK (L ++ [V]) := ⟨by simp; omega, fun W hW => by
      rcases List.mem_append.mp hW with hW | hW
      · exact hL.2 W hW
      · have : W = V := by simpa using hW
        rw [this]; exact hV⟩
    simp only [jL]
    have exit : ∀ M3, ST r M0 M3 f F1 (L ++ [V]) [] → PS M3 q 1 → (T[q]? = some 93 → ¬ L.length + 1 < 5) → lp_X7_takesField_29 N 252 r f kx (n + 1) ((L ++ [V]).length : Nat) 0 M3 := fun M3 a b c => by
      rw [lp_X7_takesField_29, if_pos rfl]
      refine H M3 (L ++ [V]) q F1 num ng a hF1' b hql hlok hF1f hR (fun y hy y4 => ?_)
      by_cases z3 : y = 93
      · subst z3
        unfold rdStep
        rw [if_neg (by decide), if_neg (by decide), if_neg (by decide), if_pos rfl, if_neg]
        rw [hF1f, pl_lv]
        have := c hy
        omega
      · exact hstop y hy z3 y4
    have body : ∀ M2, ST r M0 M2 f F1 (L ++ [V]) [] → PS M2 q 1 → (if M2 252 9 = 0 then (if (0 : Int) = 0 then lp_X7_takesField_29 N 252 r f kx (n + 1) (jW ((L.length : Int) + 1)) 0 (jU M2 252 8 (jW (M2 252 8 + 0))) else lp_X7_takesField_29 N 252 r f kx (n + 1) (jW ((L.length : Int) + 1)) 0 (jU M2 252 8 (jW (M2 252 8 + 1)))) else (if jW ((L.length : Int) + 1) < 5 then w_X7_here M2 252 (fun x15 => (if x15 = 93 then (if (1 : Int) = 0 then lp_X7_takesField_29 N 252 r f kx (n + 1) (jW ((L.length : Int) + 1)) 1 (jU M2 252 8 (jW (M2 252 8 + 0))) else lp_X7_takesField_29 N 252 r f kx (n + 1) (jW ((L.length : Int) + 1)) 1 (jU M2 252 8 (jW (M2 252 8 + 1)))) else (if (0 : Int) = 0 then lp_X7_takesField_29 N 252 r f kx (n + 1) (jW ((L.length : Int) + 1)) 0 (jU M2 252 8 (jW (M2 252 8 + 0))) else lp_X7_takesField_29 N 252 r f kx (n + 1) (jW ((L.length : Int) + 1)) 0 (jU M2 252 8 (jW (M2 252 8 + 1)))))) else (if (0 : Int) = 0 then lp_X7_takesField_29 N 252 r f kx (n + 1) (jW ((L.length : Int) + 1)) 0 (jU M2 252 8 (jW (M2 252 8 + 0))) else lp_X7_takesField_29 N 252 r f kx (n + 1) (jW ((L.length : Int) + 1)) 0 (jU M2 252 8 (jW (M2 252 8 + 1)))))) := fun M2 a b => by
      have u0 : ST r M0 (jU M2 252 8 (q : Int)) f F1 (L ++ [V]) [] := a.ft tf.u8
      have p0 : PS (jU M2 252 8 (q : Int)) q 1 := ⟨by simp [jU], by rw [jU_in (by omega)]; exact b.2⟩
      rw [if_neg (by rw [b.2]; decide), b.1, jW_id (a := (L.length : Int) + 1) (by omega), jW_id (a := (q : Int) + 0) (by omega), jW_id (a := (q : Int) + 1) (by omega), Int.add_zero, ← hlen]
      by_cases z : ((L ++ [V]).length : Int) < 5
      · rw [if_pos z, here_eq (a.tx hT) b]
        by_cases z93 : T.getD q 0 = 93
        · rw [if_pos z93, if_neg (by decide)]
          obtain ⟨hc, hlt⟩ := getD_some (T := T) (p := q) (by omega)
          rw [z93] at hc
          have hs : rdStep 3 f num ng F1 93 = some (1, f, num, ng, uI F1 f (fInsV (F1 f) (lv (F1 f) + 1) 0)) := by
            unfold rdStep
            rw [if_neg (by decide), if_neg (by decide), if_neg (by decide), if_pos rfl, if_pos ⟨rfl, by rw [hF1f, pl_lv]; omega⟩]
          have hR2 := hR
          rw [drop_at hc, rdRun_some hs, hF1f, pl_insV] at hR2
          refine ih (d - 1) (by omega) (n + 1) (q + 1) (L ++ [V]) _ (uI F1 f (L ++ [V] ++ [[0]])) (by simp; omega) (by omega) ((a.ft tf.u8).toF (fun g hg => uI_ne hg)) (fun g hg => by rw [uI_ne hg]; exact hF1' g hg) ⟨by simp [jU], by rw [jU_in (by omega)]; exact b.2⟩ hlok ⟨by omega, 1, num, ng, hR2, Or.inr ⟨rfl, uI_self _ _ _⟩⟩
        · rw [if_neg z93, if_pos rfl]
          refine exit _ u0 p0 (fun hc => absurd ?_ z93)
          rw [List.getD_eq_getElem?_getD, hc]
          rfl
      · rw [if_neg z, if_pos rfl]
        exact exit _ u0 p0 (fun _ => by simp at z; omega)
    by_cases hrn : r < 0
    · rw [if_pos hrn]
      exact body M1 (hS1.neg hrn _ _ _ _) hp1
    · have hrr : sRec r := hr.elim (fun z => absurd z hrn) (fun z => z.1)
      rw [if_neg hrn, subCell_eq hf (by omega), lays_eq hrr (by omega)]
      exact body _ (hS1.val hrr hf hG1 hL (by omega) hV) ⟨by rw [jU_row (by omega)]; exact hp1.1, by rw [jU_row (by omega)]; exact hp1.2⟩
  · simp only [jL]
    rw [if_pos hrn, if_pos hp1.2, hp1.1, jW_id (a := (L.length : Int) + 1) (by omega), jW_id (a := (q : Int) + 0) (by omega), jW_id (a := (q : Int) + 1) (by omega), Int.add_zero, if_pos trivial, lp_X7_takesField_29, if_pos rfl]
    exact H0 _ _ q hrn hql (f1.tr tf.u8) ⟨by simp [jU], by rw [jU_in (by omega)]; exact hp1.2⟩ e
theorem tfd_k {N : Nat} {M0 M : jM} {T : List Int} {R : Int × rF} {r f num ng : Int} {F : rF} {p : Nat} {k : jM → Prop} (hN : 5000 ≤ N) (hT : TX M0 T) (hr : r < 0 ∨ (sRec r ∧ R.1 = -1000007)) (hf : sFld f) (hST : STF r M0 M f F) (hG : ∀ g : Int, 0 ≤ g → g < f → fOK (F g)) (hz : ∀ g : Int, f ≤ g → F g = []) (hps : PS M p 1) (hpl : p ≤ T.length) (hR : rdRun 0 f num ng F (T.drop p) p = R)
    (H : ∀ (M' : jM) (F' : rF) (st' num' ng' : Int) (q : Nat), STF r M0 M' (f + 1) F' → (∀ g : Int, 0 ≤ g → g < f + 1 → fOK (F' g)) → (∀ g : Int, f + 1 ≤ g → F' g = []) → PS M' q 1 → q ≤ T.length → (st' = 0 ∨ st' = 3) → rdRun st' f num' ng' F' (T.drop q) q = R → (∀ c, T[q]? = some c → c ≠ 94 → rdStep st' f num' ng' F' c = none) → k M')
    (H0 : ∀ (M' : jM) (q : Nat), r < 0 → q ≤ T.length → tf M0 M' → PS M' q 0 → R.1 = q → k M') : w_X7_takesField N M 252 r f k := by
  have h90 := hT.2.1
  have hTM := hST.tx hT
  have hS := hST.begin hf
  have fin : ∀ (M' : jM) (L : List (List Int)) (F' : rF) (st' num' ng' : Int) (q : Nat), ST r M0 M' f F' L [] → (∀ g, g ≠ f → F' g = F g) → PS M' q 1 → q ≤ T.length → fOK L → F' f = L → (st' = 0 ∨ st' = 3) → rdRun st' f num' ng' F' (T.drop q) q = R → (∀ c, T[q]? = some c → c ≠ 94 → rdStep st' f num' ng' F' c = none) → (if r < 0 then k M' else w_X7_lays M' 252 r (jW (2 + f)) L.length (fun M9 => k M9)) := fun M' L F' st' num' ng' q a b c d e g h i j => by
    have hG' : ∀ x : Int, 0 ≤ x → x < f → fOK (F' x) := fun x x0 x1 => by rw [b x (by omega)]; exact hG x x0 x1
    have hG2 : ∀ x : Int, 0 ≤ x → x < f + 1 → fOK (F' x) := fun x x0 x1 => by
      by_cases y : x = f
      · rw [y, g]; exact e
      · exact hG' x x0 (by omega)
    have hz' : ∀ x : Int, f + 1 ≤ x → F' x = [] := fun x x0 => by rw [b x (by omega)]; exact hz x (by omega)
    by_cases hrn : r < 0
    · rw [if_pos hrn]
      exact H M' F' st' num' ng' q (a.fldn hrn _ _) hG2 hz' c d h i j
    · have hrr : sRec r := hr.elim (fun z => absurd z hrn) (fun z => z.1)
      rw [if_neg hrn, jW_id (by omega), lays_eq hrr (by omega)]
      exact H _ F' st' num' ng' q (a.fld hrr hf hG' e g) hG2 hz' ⟨by rw [jU_row (by omega)]; exact c.1, by rw [jU_row (by omega)]; exact c.2⟩ d h i j
  unfold w_X7_takesField
  rw [here_eq hTM hps]
  simp only [jL]
  obtain ⟨N', rfl⟩ : ∃ m, N = m + 1 := ⟨N - 1, by omega⟩
  have stay : (T.getD p 0 = 94 ∨ T.length ≤ p) → lp_X7_takesField_29 (N' + 1) 252 r f (fun (x7 : Int) (M8 : jM) => (if r < 0 then (k M8) else (w_X7_lays M8 252 r (jW (2 + f)) x7 (fun M9 => (k M9))))) (N' + 1) 0 0 M := fun z => by
    rw [lp_X7_takesField_29, if_pos rfl]
    exact fin M [] F 0 num ng p hS (fun _ _ => rfl) hps hpl fOK_nil (hz f (by omega)) (Or.inl rfl) hR (fun c hc c4 => by
      have hlt := (List.getElem?_eq_some_iff.mp hc).1
      rw [List.getD_eq_getElem?_getD, hc] at z
      have z : c = 94 ∨ T.length ≤ p := z
      omega)
  by_cases z94 : T.getD p 0 = 94
  · rw [if_pos z94]
    exact stay (Or.inl z94)
  · rw [if_neg z94, hps.1, hTM.1]
    by_cases zl : p < T.length
    · rw [if_pos (by omega)]
      exact tfd_lp (F0 := F) hN hT hr hf hG (fun M' L q F' num' ng' a b c d e g h i => fin M' L F' 3 num' ng' q a b c d e g (Or.inr rfl) h i) (fun z M' q hrn hql a b e => by
        rw [if_pos hrn]
        exact H0 M' q hrn hql a b e) 4 (N' + 1) p [] M F (by simp) (by omega) hS (fun _ _ => rfl) hps fOK_nil ⟨hpl, 0, num, ng, hR, Or.inl ⟨rfl, hz f (by omega), rfl, rfl, zl, z94⟩⟩
    · rw [if_neg (by omega)]
      exact stay (Or.inr (by omega))
/-- between fields: not well formed any more, or f fields are read -/
def TA (r : Int) (M0 : jM) (T : List Int) (R : Int × rF) (f : Nat) (M : jM) : Prop :=
  (r < 0 ∧ tf M0 M ∧ ∃ q : Nat, q ≤ T.length ∧ PS M q 0 ∧ R.1 = q) ∨
  (∃ (st num ng : Int) (F : rF) (p : Nat), STF r M0 M f F ∧ (∀ g : Int, 0 ≤ g → g < f → fOK (F g)) ∧ (∀ g : Int, (f : Int) ≤ g → F g = []) ∧ PS M p 1 ∧ p ≤ T.length ∧
    ((f = 0 ∧ rdRun 0 0 num ng F (T.drop p) p = R) ∨ (1 ≤ f ∧ (st = 0 ∨ st = 3) ∧ rdRun st ((f : Int) - 1) num ng F (T.drop p) p = R ∧ (∀ c, T[p]? = some c → c ≠ 94 → rdStep st ((f : Int) - 1) num ng F c = none))))
theorem ta_lp {N : Nat} {M0 : jM} {T : List Int} {R : Int × rF} {r : Int} {kx : jM → Prop} (hN : 5000 ≤ N) (hT : TX M0 T) (hr : r < 0 ∨ (sRec r ∧ R.1 = -1000007)) (H : ∀ M' f, f ≤ 4 → TA r M0 T R f M' → (M' 252 9 ≠ 0 → f = 4) → kx M') :
    ∀ (d n f : Nat) (M : jM), f + d = 4 → d < n → TA r M0 T R f M → lp_X7_takesAll_12 N 252 r kx n f M := by
  have h90 := hT.2.1
  intro d
  induction d with
  | zero =>
    intro n f M hd hn hA
    obtain ⟨n, rfl⟩ : ∃ m, n = m + 1 := ⟨n - 1, by omega⟩
    rw [lp_X7_takesAll_12, if_neg (by omega)]
    exact H M f (by omega) hA (fun _ => by omega)
  | succ d ih =>
    intro n f M hd hn hA
    obtain ⟨n, rfl⟩ : ∃ m, n = m + 1 := ⟨n - 1, by omega⟩
    have ej : jW ((f : Int) + 1) = ((f + 1 : Nat) : Int) := by rw [jW_id (by omega)]; omega
    rw [lp_X7_takesAll_12, if_pos (by omega)]
    simp only [jL, ej]
    rcases hA with ⟨hrn, ht, q, hql, hps, hRq⟩ | ⟨st, num, ng, F, p, hST, hG, hz, hps, hpl, hc⟩
    · rw [if_pos hps.2]
      exact H M f (by omega) (Or.inl ⟨hrn, ht, q, hql, hps, hRq⟩) (fun z => absurd hps.2 z)
    · have hTM := hST.tx hT
      have fld : ∀ (M1 : jM) (p1 : Nat) (num1 ng1 : Int), STF r M0 M1 f F → PS M1 p1 1 → p1 ≤ T.length → rdRun 0 f num1 ng1 F (T.drop p1) p1 = R → w_X7_takesField N M1 252 r f (fun M7 => lp_X7_takesAll_12 N 252 r kx n ((f + 1 : Nat) : Int) M7) := fun M1 p1 num1 ng1 a b c e =>
        tfd_k hN hT hr (by omega) a hG hz b c e (fun M2 F' st' num' ng' q a1 a2 a3 a4 a5 a6 a7 a8 => ih n (f + 1) M2 (by omega) (by omega) (Or.inr ⟨st', num', ng', F', q, by rw [show ((f + 1 : Nat) : Int) = (f : Int) + 1 by omega]; exact a1, fun g g0 g1 => a2 g g0 (by omega), fun g g0 => a3 g (by omega), a4, a5, Or.inr ⟨by omega, a6, by rw [show ((f + 1 : Nat) : Int) - 1 = (f : Int) by omega]; exact a7, by rw [show ((f + 1 : Nat) : Int) - 1 = (f : Int) by omega]; exact a8⟩⟩)) (fun M2 q hrn a1 a2 a3 a4 => ih n (f + 1) M2 (by omega) (by omega) (Or.inl ⟨hrn, a2, q, a1, a3, a4⟩))
      rw [if_neg (by rw [hps.2]; decide)]
      rcases hc with ⟨f0, hR⟩ | ⟨f1, hst, hR, hstop⟩
      · subst f0
        rw [if_pos (by omega), if_neg (by rw [hps.2]; decide)]
        exact fld M p num ng hST hps hpl hR
      · rw [if_neg (by omega), here_eq hTM hps]
        by_cases z94 : T.getD p 0 = 94
        · rw [if_pos z94]
          obtain ⟨hcc, hlt⟩ := getD_some (T := T) (p := p) (by omega)
          rw [z94] at hcc
          refine takes1_k hps (by omega) (fun M1 e1 hp1 => ?_)
          rw [if_neg (by rw [hp1.2]; decide)]
          have hs : rdStep st ((f : Int) - 1) num ng F 94 = some (0, (f : Int) - 1 + 1, num, ng, F) := by
            unfold rdStep
            rw [if_neg (by decide), if_neg (by decide), if_neg (by decide), if_neg (by decide), if_pos rfl, if_pos ⟨hst, by omega⟩]
          rw [drop_at hcc, rdRun_some hs, show (f : Int) - 1 + 1 = f by omega] at hR
          exact fld M1 (p + 1) num ng (hST.ft e1) hp1 (by omega) hR
        · rw [if_neg z94]
          refine takes0_k hps (by omega) (fun M1 e1 hp1 => ?_)
          rw [if_pos hp1.2]
          have hRp : R.1 = p := by
            rcases Nat.lt_or_ge p T.length with y | y
            · have e : T[p]? = some (T.getD p 0) := by
                rw [List.getD_eq_getElem?_getD, List.getElem?_eq_getElem y]
                rfl
              rw [drop_at e, rdRun_none (hstop _ e z94)] at hR
              rw [← hR]
            · rw [List.drop_of_length_le y] at hR
              rw [← hR]
              simp only [rdRun]
              rw [if_neg (by omega)]
          have hrn : r < 0 := hr.elim (fun z => z) (fun z => by have := z.2; omega)
          exact ih n (f + 1) M1 (by omega) (by omega) (Or.inl ⟨hrn, (hST.tfn hrn).tr e1, p, hpl, hp1, hRp⟩)
theorem takesAll_k {N : Nat} {M : jM} {T : List Int} {r : Int} {k : Int → jM → Prop} (hN : 5000 ≤ N) (hT : TX M T) (hr : r < 0 ∨ (sRec r ∧ (rd T).1 = -1000007)) (h0 : 0 ≤ r → ∀ g : Int, 0 ≤ g → g < 4 → FC M (55 + 106 * r) g [])
    (H1 : (rd T).1 = -1000007 → ∀ M', STF r M M' 4 (rd T).2 → (∀ g : Int, 0 ≤ g → g < 4 → fOK ((rd T).2 g)) → k 1 M')
    (H0 : 0 ≤ (rd T).1 → r < 0 → ∀ M', tf M M' → M' 252 8 = (rd T).1 → k 0 M') : w_X7_takesAll N M 252 r k := by
  have h90 := hT.2.1
  unfold w_X7_takesAll
  simp only [jL]
  have e2 : tf M (jU (jU M 252 8 0) 252 9 1) := tf.u8.tr tf.u9
  have e253 := e2.1 253 (by omega)
  refine ta_lp (R := rd T) hN hT hr (fun M' f hf hA h4 => ?_) 4 N 0 _ (by omega) (by omega) (Or.inr ⟨0, 0, 0, fun _ => [], 0, ⟨fun c a b => e2.1 c a, e2.2, fun _ => e253, fun hr0 => ⟨fun i _ => by rw [e253], fun g a b => by omega, fun g a b => (h0 hr0 g (by omega) b).same e253⟩⟩, fun g a b => by omega, fun _ _ => rfl, ⟨by simp [jU], by simp [jU]⟩, by omega, Or.inl ⟨rfl, rfl⟩⟩)
  rcases hA with ⟨hrn, ht, q, hql, hps, hRq⟩ | ⟨st, num, ng, F, p, hST, hG, hz, hps, hpl, hc⟩
  · rw [if_pos hps.2]
    exact H0 (by omega) hrn M' ht (by rw [hps.1, hRq])
  · have hf4 := h4 (by rw [hps.2]; decide)
    subst hf4
    rw [if_neg (by rw [hps.2]; decide), hps.1, (hST.tx hT).1]
    obtain ⟨-, hst, hR, hstop⟩ := hc.resolve_left (fun z => by omega)
    by_cases z : p = T.length
    · rw [if_pos (by omega)]
      rw [List.drop_of_length_le (by omega)] at hR
      simp only [rdRun] at hR
      rw [if_pos ⟨by omega, hst⟩] at hR
      have e1 : (rd T).1 = -1000007 := by rw [← hR]
      have e2 : (rd T).2 = F := by rw [← hR]
      refine H1 e1 M' ?_ ?_
      · rw [e2]; exact hST
      · rw [e2]; exact hG
    · rw [if_neg (by omega)]
      have e : T[p]? = some (T.getD p 0) := by
        rw [List.getD_eq_getElem?_getD, List.getElem?_eq_getElem (by omega)]
        rfl
      have hRp : (rd T).1 = p := by
        have hs : rdStep st (((4 : Nat) : Int) - 1) num ng F (T.getD p 0) = none := by
          by_cases y : T.getD p 0 = 94
          · rw [y]
            unfold rdStep
            rw [if_neg (by decide), if_neg (by decide), if_neg (by decide), if_neg (by decide), if_pos rfl, if_neg (by omega)]
          · exact hstop _ e y
        rw [drop_at e, rdRun_none hs] at hR
        rw [← hR]
      have hrn : r < 0 := hr.elim (fun z => z) (fun z => by have := z.2; omega)
      exact H0 (by omega) hrn M' (hST.tfn hrn) (by rw [hps.1, hRp])
theorem MR.tx {M : jM} {a : aA} (h : MR M a) : TX M (aT a) := ⟨h.2.2.2.2.1, h.2.2.2.2.2.1, h.2.2.2.2.2.2.1⟩
theorem ms_fault {N : Nat} {M : jM} {a : aA} {k : Int → jM → Prop} (hN : 5000 ≤ N) (hM : MR M a) (H : ∀ M', frM M M' → MR M' a → k (a_fault a) M') : w_X7_fault N M 252 k := by
  unfold w_X7_fault
  unfold a_fault at H
  refine takesAll_k hN hM.tx (Or.inl (by omega)) (fun z => by omega) (fun e M' h' _ => ?_) (fun e _ M' h' e8 => ?_)
  · rw [if_neg (by decide), ← e]
    have ht := h'.tfn (by omega)
    exact H M' ht.wf.frM (hM.wf ht.wf)
  · rw [if_pos rfl, e8]
    exact H M' h'.wf.frM (hM.wf h'.wf)
/-! the number of all subvalues -/
def psN (M : jM) (o : Int) : Nat → Int
  | 0 => 0
  | k + 1 => psN M o k + M 253 (o + (6 + k))
theorem load_sum {M : jM} {r : Int} {kx : Int → Prop} (hr : sRec r) (hb : ∀ k : Nat, k < 20 → 0 ≤ M 253 (55 + 106 * r + (6 + k)) ∧ M 253 (55 + 106 * r + (6 + k)) ≤ 4) (H : kx (psN M (55 + 106 * r) 20)) : ∀ (d n p : Nat), d < n → p + d = 20 → 0 ≤ psN M (55 + 106 * r) p ∧ psN M (55 + 106 * r) p ≤ 4 * p → lp_X7_load_84 252 r M kx n (psN M (55 + 106 * r) p) (6 + (p : Int)) := by
  intro d
  induction d with
  | zero =>
    intro n p hn hp hq
    obtain ⟨n, rfl⟩ : ∃ m, n = m + 1 := ⟨n - 1, by omega⟩
    have : p = 20 := by omega
    subst this
    rw [lp_X7_load_84, if_neg (by omega)]
    exact H
  | succ d ih =>
    intro n p hn hp hq
    obtain ⟨n, rfl⟩ : ∃ m, n = m + 1 := ⟨n - 1, by omega⟩
    have hb := hb p (by omega)
    have en : psN M (55 + 106 * r) (p + 1) = psN M (55 + 106 * r) p + M 253 (55 + 106 * r + (6 + p)) := rfl
    have ih := ih n (p + 1) (by omega) (by omega) (by rw [en]; omega)
    rw [lp_X7_load_84, if_pos (by omega), of_eq hr (by omega)]
    simp only [jL]
    rw [jW_id (by omega), jW_id (by omega), ← en, show 6 + (p : Int) + 1 = 6 + ((p + 1 : Nat) : Int) by omega]
    exact ih
theorem FC.subs {M : jM} {o g : Int} {L : List (List Int)} (h : FC M o g L) (hL : fOK L) : (∀ j : Int, 0 ≤ j → j < 5 → 0 ≤ M 253 (o + (6 + 5 * g + j)) ∧ M 253 (o + (6 + 5 * g + j)) ≤ 4) ∧ M 253 (o + (6 + 5 * g + 0)) + M 253 (o + (6 + 5 * g + 1)) + M 253 (o + (6 + 5 * g + 2)) + M 253 (o + (6 + 5 * g + 3)) + M 253 (o + (6 + 5 * g + 4)) = nSubs L := by
  obtain ⟨h1, h2, h3⟩ := h
  have hl := hL.1
  have val : ∀ (j : Nat) (V : List Int), L[j]? = some V → M 253 (o + (6 + 5 * g + (j : Int))) = V.length ∧ V.length ≤ 4 := fun j V hj => ⟨(h2 j V hj).1, (hL.at hj).2.2.1⟩
  refine ⟨fun j j0 j1 => ?_, ?_⟩
  · by_cases z : j < L.length
    · have e : L[j.toNat]? = some L[j.toNat] := List.getElem?_eq_getElem (by omega)
      have := val _ _ e
      rw [Int.toNat_of_nonneg j0] at this
      omega
    · rw [h3 j (by omega) j1]
      omega
  · match L, hl, h3, val with
    | [], _, h3, _ =>
      have z0 := h3 0 (by simp) (by omega)
      have z1 := h3 1 (by simp) (by omega)
      have z2 := h3 2 (by simp) (by omega)
      have z3 := h3 3 (by simp) (by omega)
      have z4 := h3 4 (by simp) (by omega)
      simp [nSubs] at z0 ⊢
      omega
    | [a], _, h3, val =>
      have z0 := (val 0 a rfl).1
      have z1 := h3 1 (by simp) (by omega)
      have z2 := h3 2 (by simp) (by omega)
      have z3 := h3 3 (by simp) (by omega)
      have z4 := h3 4 (by simp) (by omega)
      simp [nSubs] at z0 ⊢
      omega
    | [a, b], _, h3, val =>
      have z0 := (val 0 a rfl).1
      have z1 := (val 1 b rfl).1
      have z2 := h3 2 (by simp) (by omega)
      have z3 := h3 3 (by simp) (by omega)
      have z4 := h3 4 (by simp) (by omega)
      simp [nSubs] at z0 z1 ⊢
      omega
    | [a, b, c], _, h3, val =>
      have z0 := (val 0 a rfl).1
      have z1 := (val 1 b rfl).1
      have z2 := (val 2 c rfl).1
      have z3 := h3 3 (by simp) (by omega)
      have z4 := h3 4 (by simp) (by omega)
      simp [nSubs] at z0 z1 z2 ⊢
      omega
    | [a, b, c, d], _, h3, val =>
      have z0 := (val 0 a rfl).1
      have z1 := (val 1 b rfl).1
      have z2 := (val 2 c rfl).1
      have z3 := (val 3 d rfl).1
      have z4 := h3 4 (by simp) (by omega)
      simp [nSubs] at z0 z1 z2 z3 ⊢
      omega
    | [a, b, c, d, e], _, h3, val =>
      have z0 := (val 0 a rfl).1
      have z1 := (val 1 b rfl).1
      have z2 := (val 2 c rfl).1
      have z3 := (val 3 d rfl).1
      have z4 := (val 4 e rfl).1
      simp [nSubs] at z0 z1 z2 z3 z4 ⊢
      omega
    | _ :: _ :: _ :: _ :: _ :: _ :: _, hl, _, _ => simp at hl
def clR (M : jM) (r p : Int) : jM := fun c i => if c = 253 ∧ 57 + 106 * r ≤ i ∧ i < 55 + 106 * r + p then 0 else M c i
theorem clear_lp {M : jM} {r : Int} {kx : jM → Prop} (hr : sRec r) (H : kx (clR M r 106)) : ∀ (d n p : Nat), d < n → p + d = 106 → 2 ≤ p → lp_X7_load_49 252 r kx n p (clR M r p) := by
  intro d
  induction d with
  | zero =>
    intro n p hn hp h2
    obtain ⟨n, rfl⟩ : ∃ m, n = m + 1 := ⟨n - 1, by omega⟩
    have : p = 106 := by omega
    subst this
    rw [lp_X7_load_49, if_neg (by omega)]
    exact H
  | succ d ih =>
    intro n p hn hp h2
    obtain ⟨n, rfl⟩ : ∃ m, n = m + 1 := ⟨n - 1, by omega⟩
    have ih := ih n (p + 1) (by omega) (by omega) (by omega)
    rw [lp_X7_load_49, if_pos (by omega), lays_eq hr (by omega)]
    simp only [jL]
    rw [jW_id (by omega)]
    have e : jU (clR M r p) 253 (55 + 106 * r + p) 0 = clR M r ((p + 1 : Nat) : Int) := by
      funext c i
      simp only [jU, clR]
      grind (splits := 20)
    rw [e]
    exact ih
theorem FC.fr {M : jM} {o g : Int} {L : List (List Int)} (h : FC M o g L) (hL : fOK L) : FR L (M 253 (o + 2 + g)) (fun v => M 253 (o + 6 + 5 * g + v)) (fun v k => M 253 (o + 26 + 20 * g + 4 * v + k)) := by
  obtain ⟨h1, h2, -⟩ := h
  refine ⟨by rw [← h1]; congr 1; omega, hL.1, fun v V hv => ?_⟩
  have a := hL.at hv
  obtain ⟨b1, b2⟩ := h2 v V hv
  refine ⟨?_, a.2.1, a.2.2.1, fun k x hk => ⟨?_, a.2.2.2 x (List.mem_of_getElem? hk)⟩⟩
  · show M 253 (o + 6 + 5 * g + (v : Int)) = _
    rw [← b1]; congr 1; omega
  · show M 253 (o + 26 + 20 * g + 4 * (v : Int) + (k : Int)) = x
    rw [← b2 k x hk]; congr 1; omega
theorem ms_load {N : Nat} {M : jM} {a : aA} {u id : Int} {k : Int → jM → Prop} (hN : 5000 ≤ N) (hM : MR M a) (H : ∀ M', frM M M' → MR M' (a_load a u id).2 → k (a_load a u id).1 M') : w_X7_load N M 252 u id k := by
  unfold w_X7_load
  have hS := hM.now
  obtain ⟨O, hO⟩ := MS_iff.mp hS
  unfold a_load at H
  refine placeOf_k (by omega) hO (fun i hi => ?_) (fun hn => ?_)
  · have hr := hO.rec hi
    by_cases hu : sUsr u
    · refine errOk_k hN hS hu hr.2.2 ?_
      rw [if_neg (by omega)]
      rw [if_neg (fun z => z.elim (fun z => z hu) (fun z => z hr.2.2))] at H
      refine takesAll_k hN hM.tx (Or.inl (by omega)) (fun z => by omega) (fun e M1 h' _ => ?_) (fun e _ M1 h' e8 => ?_)
      · rw [if_neg (by decide)]
        rw [if_neg (not_not_intro e)] at H
        have ht := (h'.tfn (by omega)).wf
        have hM1 := hM.wf ht
        have hO1 := ht.MO hO
        have hr1 := hO1.rec hi
        rw [isBarred_eq hr1.1 hr1.2.1 hu]
        by_cases h2 : sOpen (aNow a) u id
        · rw [if_neg (not_not_intro h2)] at H
          rw [if_pos h2, if_pos rfl]
          refine msBegin_k hN hM1 (fun M2 h2' hB f2 => ?_)
          obtain hO2 : MO M2 253 0 (aNow a) O := hO1.same (f2 253 (by omega))
          have hr2 := hO2.rec hi
          have e0 : clR M2 i ((2 : Nat) : Int) = M2 := by
            funext c j
            unfold clR
            rw [if_neg (by omega)]
          have c253 : ∀ c : Int, c ≠ 253 → clR M2 i 106 c = M2 c := fun c hc => by
            funext j
            unfold clR
            rw [if_neg (by omega)]
          have cz : ∀ j : Int, 2 ≤ j → j < 106 → clR M2 i 106 253 (55 + 106 * (i : Int) + j) = 0 := fun j a b => by
            unfold clR
            rw [if_pos (by omega)]
          have co : ∀ j : Int, j < 2 ∨ 106 ≤ j → clR M2 i 106 253 (55 + 106 * (i : Int) + j) = M2 253 (55 + 106 * (i : Int) + j) := fun j a => by
            unfold clR
            rw [if_neg (by omega)]
          have hT2 : TX (clR M2 i 106) (aT a) := by
            have := h2'.tx
            exact ⟨by rw [c253 252 (by omega)]; exact this.1, this.2.1, fun j x hj => by rw [c253 256 (by omega)]; exact this.2.2 j x hj⟩
          have := clear_lp (M := M2) (r := (i : Int)) (kx := (fun (M9 : jM) => (w_X7_takesAll N M9 252 i (fun x10 M11 => (lp_X7_load_84 252 i M11 (fun (x14 : Int) => (w_X7_keeps N M11 252 x14 (fun x15 M16 => (k x15 M16)))) N 0 6))))) hr2.1 ?_ 104 N 2 (by omega) (by omega) (by omega)
          · rw [e0] at this
            exact this
          · refine takesAll_k hN hT2 (Or.inr ⟨hr2.1, e⟩) (fun _ g g0 g1 => ⟨cz _ (by omega) (by omega), FV_nil, fun j j0 j1 => cz _ (by simp at j0; omega) (by omega)⟩) (fun _ M3 h3 hok => ?_) (fun z => by omega)
            obtain ⟨q1, q2, -, q4⟩ := h3
            obtain ⟨q5, q6, -⟩ := q4 hr2.1.1
            have s0 := (q6 0 (by omega) (by omega)).subs (hok 0 (by omega) (by omega))
            have s1 := (q6 1 (by omega) (by omega)).subs (hok 1 (by omega) (by omega))
            have s2 := (q6 2 (by omega) (by omega)).subs (hok 2 (by omega) (by omega))
            have s3 := (q6 3 (by omega) (by omega)).subs (hok 3 (by omega) (by omega))
            have esum : psN M3 (55 + 106 * (i : Int)) 20 = nAll (rd (aT a)).2 := by
              have t0 := s0.2
              have t1 := s1.2
              have t2 := s2.2
              have t3 := s3.2
              simp only [Int.reduceMul, Int.reduceAdd] at t0 t1 t2 t3
              unfold nAll
              simp only [psN]
              simp
              omega
            have hbd : ∀ j : Nat, j < 20 → 0 ≤ M3 253 (55 + 106 * (i : Int) + (6 + j)) ∧ M3 253 (55 + 106 * (i : Int) + (6 + j)) ≤ 4 := fun j hj => by
              rcases (by omega : j < 5 ∨ (5 ≤ j ∧ j < 10) ∨ (10 ≤ j ∧ j < 15) ∨ (15 ≤ j ∧ j < 20)) with z | z | z | z
              · have := s0.1 j (by omega) (by omega)
                rw [show (6 : Int) + 5 * 0 + j = 6 + j by omega] at this
                exact this
              · have := s1.1 (j - 5) (by omega) (by omega)
                rw [show (6 : Int) + 5 * 1 + (j - 5) = 6 + j by omega] at this
                exact this
              · have := s2.1 (j - 10) (by omega) (by omega)
                rw [show (6 : Int) + 5 * 2 + (j - 10) = 6 + j by omega] at this
                exact this
              · have := s3.1 (j - 15) (by omega) (by omega)
                rw [show (6 : Int) + 5 * 3 + (j - 15) = 6 + j by omega] at this
                exact this
            have hf3 : mfr M2 M3 := ⟨fun c hc => by rw [q1 c (by omega) (by omega)]; exact c253 c (by omega), fun c c0 c1 => by rw [q1 c (by omega) (by omega)]; exact c253 c (by omega), by rw [q2 3 (by omega) (by omega), c253 252 (by omega)], by rw [q2 5 (by omega) (by omega), c253 252 (by omega)], by rw [q2 7 (by omega) (by omega), c253 252 (by omega)]⟩
            have hout : ∀ j : Int, (j < 57 + 106 * (i : Int) ∨ 55 + 106 * (i : Int) + 106 ≤ j) → M3 253 j = M2 253 j := fun j hj => by
              have a1 := q5 (j - (55 + 106 * (i : Int))) (by omega)
              have a2 := co (j - (55 + 106 * (i : Int))) (by omega)
              rw [show 55 + 106 * (i : Int) + (j - (55 + 106 * (i : Int))) = j by omega] at a1 a2
              rw [a1, a2]
            have hRM : RM M3 253 (55 + 106 * (i : Int)) id (sK (aNow a) id) (rd (aT a)).2 := ⟨by rw [hout _ (by omega)]; exact hr2.2.1.1, by rw [hout _ (by omega)]; exact hr2.2.1.2.1, hr2.2.1.2.2.1, fun g g0 g1 => (q6 g g0 g1).fr (hok g g0 g1)⟩
            have hO3 := setFs_MO hO2 hi (fun j hj => hout j (by omega)) hRM
            have hnn : 0 ≤ nAll (rd (aT a)).2 := by unfold nAll; omega
            refine load_sum (M := M3) (r := (i : Int)) hr2.1 hbd ?_ 20 N 0 (by omega) (by omega) (by simp [psN])
            rw [esum]
            exact msKeep_k hN h2' hB hf3 (MS_iff.mpr ⟨_, hO3⟩) (by omega) (fun M' f' hM' => H M' (fun c hc => by rw [f' c hc, f2 c (by omega)]; exact ht.frM c hc) hM')
        · rw [if_pos h2] at H
          rw [if_neg h2, if_neg (by decide)]
          exact H M1 ht.frM hM1
      · rw [if_pos rfl]
        rw [if_pos (by omega)] at H
        exact H M1 h'.wf.frM (hM.wf h'.wf)
    · rw [if_pos (Or.inl hu)] at H
      refine errBad_k hN hS (Or.inl hu) ?_
      rw [if_pos (by omega)]
      exact H M wf.rfl.frM hM
  · rw [if_pos (Or.inr hn)] at H
    refine errBad_k hN hS (Or.inr hn) ?_
    rw [if_pos (by omega)]
    exact H M wf.rfl.frM hM
