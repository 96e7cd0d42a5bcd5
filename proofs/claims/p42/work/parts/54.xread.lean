/-! READING A TEXT: an automaton of (stage, field, number, sign, fields) -/
abbrev rF : Type := Int → List (List Int)
abbrev rS : Type := Int × Int × Int × Int × rF
def lv (L : List (List Int)) : Int := fL L - 1
def ls (L : List (List Int)) : Int := fS L (lv L) - 1
def rBeg (st f : Int) (F : rF) : rF := if st = 0 then uI F f (fInsV (F f) 0 0) else F
def rNew (num ng d : Int) : Int := num * 10 + (if ng = 0 then d else -d)
def rDig (f num ng : Int) (F : rF) (d : Int) : rS := (3, f, rNew num ng d, ng, uI F f (fChg (F f) (lv (F f)) (ls (F f)) (rNew num ng d)))
def rdStep (st f num ng : Int) (F : rF) (c : Int) : Option rS :=
  if 48 ≤ c ∧ c ≤ 57 then (if st = 2 then (if c = 48 then none else some (rDig f num ng F (c - 48))) else if st = 3 then (if num = 0 ∨ 100 ≤ num.natAbs then none else some (rDig f num ng F (c - 48))) else some (rDig f 0 0 (rBeg st f F) (c - 48)))
  else if c = 45 then (if st = 0 ∨ st = 1 then some (2, f, 0, 1, rBeg st f F) else none)
  else if c = 47 then (if st = 3 ∧ ls (F f) < 3 then some (1, f, num, ng, uI F f (fInsS (F f) (lv (F f)) (ls (F f) + 1) 0)) else none)
  else if c = 93 then (if st = 3 ∧ lv (F f) < 4 then some (1, f, num, ng, uI F f (fInsV (F f) (lv (F f) + 1) 0)) else none)
  else if c = 94 then (if (st = 0 ∨ st = 3) ∧ f < 3 then some (0, f + 1, num, ng, F) else none)
  else none
def rdRun (st f num ng : Int) (F : rF) : List Int → Int → Int × rF
  | [], p => (if f = 3 ∧ (st = 0 ∨ st = 3) then -1000007 else p, F)
  | c :: T, p => match rdStep st f num ng F c with
    | none => (p, F)
    | some s => rdRun s.1 s.2.1 s.2.2.1 s.2.2.2.1 s.2.2.2.2 T (p + 1)
def rd (T : List Int) : Int × rF := rdRun 0 0 0 0 (fun _ => []) T 0
def a_fault (a : aA) : Int := (rd (aT a)).1
/-- what the cells of the reader hold -/
def RI (M0 M : jM) (st f num ng : Int) (F : rF) : Prop :=
  (∀ c : Int, (c < 241 ∨ 245 < c) → M c = M0 c) ∧ M 241 1 = st ∧ M 241 2 = f ∧ (0 ≤ st ∧ st ≤ 3) ∧ sFld f ∧ RF M 242 F ∧ (st = 0 → F f = []) ∧ (st ≠ 0 → F f ≠ []) ∧ (∀ g : Int, f < g → F g = []) ∧
  ((st = 2 ∨ st = 3) → M 241 3 = num ∧ M 241 4 = ng ∧ sNum num ∧ (ng = 0 ∧ 0 ≤ num ∨ ng = 1 ∧ num ≤ 0)) ∧ (st = 2 → num = 0 ∧ ng = 1)
def RJ (M0 M : jM) (f num ng : Int) (F : rF) : Prop :=
  (∀ c : Int, (c < 241 ∨ 245 < c) → M c = M0 c) ∧ M 241 2 = f ∧ sFld f ∧ RF M 242 F ∧ F f ≠ [] ∧ (∀ g : Int, f < g → F g = []) ∧ M 241 3 = num ∧ M 241 4 = ng ∧ (ng = 0 ∧ 0 ≤ num ∨ ng = 1 ∧ num ≤ 0)
theorem fL_pos {L : List (List Int)} (h : L ≠ []) : 1 ≤ fL L := by
  unfold fL
  have := List.length_pos_iff.mpr h
  omega
theorem RF.last {M : jM} {r f : Int} {F : rF} (h : RF M r F) (hf : sFld f) (hne : F f ≠ []) : 0 ≤ lv (F f) ∧ lv (F f) < fL (F f) ∧ lv (F f) ≤ 4 ∧ 0 ≤ ls (F f) ∧ ls (F f) < fS (F f) (lv (F f)) ∧ ls (F f) ≤ 3 := by
  have h1 := fL_pos hne
  have h2 := h.len hf
  have h3 := h.sub hf (v := lv (F f)) (by unfold lv; omega) (by unfold lv; omega)
  unfold ls
  unfold lv at *
  omega
theorem lastValue_eq {M : jM} {f : Int} {F : rF} (h : RF M 242 F) (hf : sFld f) (e : M 241 2 = f) (k : Int → Prop) : w_X5_lastValue M 241 k = k (lv (F f)) := by
  unfold w_X5_lastValue
  have h2 := h.len hf
  simp only [Int.reduceAdd, e]
  rw [valueCount_eq h hf, jW_id (by omega)]
  rfl
theorem lastSub_eq {M : jM} {f : Int} {F : rF} (h : RF M 242 F) (hf : sFld f) (hne : F f ≠ []) (e : M 241 2 = f) (k : Int → Prop) : w_X5_lastSub M 241 k = k (ls (F f)) := by
  unfold w_X5_lastSub
  have h2 := h.last hf hne
  have h3 := h.sub hf h2.1 h2.2.1
  rw [lastValue_eq h hf e]
  simp only [Int.reduceAdd, e]
  rw [subCount_eq h hf h2.1 h2.2.1, jW_id (by omega)]
  rfl
theorem RJ.digit {M0 M : jM} {f num ng d : Int} {F : rF} {k : Int → jM → Prop} (h : RJ M0 M f num ng F) (hd : 0 ≤ d ∧ d ≤ 9) (hn : num.natAbs < 100) (H : ∀ M', RI M0 M' 3 f (rNew num ng d) ng (uI F f (fChg (F f) (lv (F f)) (ls (F f)) (rNew num ng d))) → k 1 M') :
    jL (fun (x3 : Int) => (jL (jU M 241 3 (jW ((jW ((M 241 3) * 10)) + x3))) (fun M5 => (jL (jU M5 241 1 3) (fun M6 => (w_X5_lastValue M6 241 (fun x7 => (w_X5_lastSub M6 241 (fun x8 => (w_X1_setNumber M6 (241 + 1) (M6 241 2) x7 x8 (M6 241 3) (fun M9 => (k 1 M9)))))))))))) (fun j59_4 => (if (M 241 4) = 0 then (j59_4 d) else (j59_4 (jW (-d))))) := by
  obtain ⟨h1, h2, h3, h4, h5, h6, h7, h8, h9⟩ := h
  have hb : sNum (rNew num ng d) ∧ (ng = 0 ∧ 0 ≤ rNew num ng d ∨ ng = 1 ∧ rNew num ng d ≤ 0) := by
    unfold rNew
    split <;> omega
  have hl := h4.last h3 h5
  have go : ∀ x : Int, x = (if ng = 0 then d else -d) → (jL (jU M 241 3 (jW ((jW ((M 241 3) * 10)) + x))) (fun M5 => (jL (jU M5 241 1 3) (fun M6 => (w_X5_lastValue M6 241 (fun x7 => (w_X5_lastSub M6 241 (fun x8 => (w_X1_setNumber M6 (241 + 1) (M6 241 2) x7 x8 (M6 241 3) (fun M9 => (k 1 M9))))))))))) := by
    intro x hx
    have e : num * 10 + x = rNew num ng d := by rw [hx]; rfl
    simp only [jL]
    rw [h7, jW_id (a := num * 10) (by omega), e, jW_id (by omega)]
    have c4 : ∀ c : Int, c ≠ 241 → jU (jU M 241 3 (rNew num ng d)) 241 1 3 c = M c := fun c hc => by rw [jU_row hc, jU_row hc]
    have hF : RF (jU (jU M 241 3 (rNew num ng d)) 241 1 3) 242 F := h4.congr (c4 _ (by omega)) (c4 _ (by omega)) (c4 _ (by omega))
    have e2 : jU (jU M 241 3 (rNew num ng d)) 241 1 3 241 2 = f := by simp [jU]; exact h2
    have e3 : jU (jU M 241 3 (rNew num ng d)) 241 1 3 241 3 = rNew num ng d := by simp [jU]
    have e4 : jU (jU M 241 3 (rNew num ng d)) 241 1 3 241 4 = ng := by simp [jU]; exact h8
    have e1 : jU (jU M 241 3 (rNew num ng d)) 241 1 3 241 1 = 3 := by simp [jU]
    rw [lastValue_eq hF h3 e2, lastSub_eq hF h3 h5 e2, e2, e3, show (241 : Int) + 1 = 242 from rfl]
    rw [setNumber_eq h3 ⟨hl.1, by omega⟩ ⟨hl.2.2.2.1, by omega⟩]
    have hG := chg_RF hF h3 hl.1 hl.2.1 hl.2.2.2.1 hl.2.2.2.2.1 hb.1
    refine H _ ⟨fun c hc => by rw [jU_row (by omega), c4 c (by omega)]; exact h1 c hc, by rw [jU_row (by omega)]; exact e1, by rw [jU_row (by omega)]; exact e2, by omega, h3, hG, fun z => by omega, fun _ => ?_, fun g hg => by rw [uI_ne (by omega)]; exact h6 g hg, fun _ => ⟨by rw [jU_row (by omega)]; exact e3, by rw [jU_row (by omega)]; exact e4, hb.1, hb.2⟩, fun z => by omega⟩
    rw [uI_self]
    unfold fChg
    intro z
    have := congrArg List.length z
    simp at this
    exact h5 this
  show (if M 241 4 = 0 then _ else _)
  rw [h8]
  by_cases z : ng = 0
  · rw [if_pos z]
    exact go d (by rw [if_pos z])
  · rw [if_neg z]
    refine go _ ?_
    rw [if_neg z, jW_id (by omega)]
