theorem addRecord_k {N : Nat} {M : jM} {b id : Int} {s : aS} {k : jM → Prop} (hN : 100 ≤ N) (hS : XS M b s) (hid : 0 ≤ id ∧ id < 100) (hni : id ∉ sI s) (hlen : (sI s).length < 10) (h : ∀ M', (∀ c : Int, (c < b ∨ b + 47 ≤ c) → M' c = M c) → XS M' b (sAdd s id) → k M') : w_X4_addRecord N M b id k := by
  unfold w_X4_addRecord
  have hc := hS.cnt
  have hb := hS.rok
  rw [hc.1, if_pos (by omega)]
  refine ⟨by omega, ?_⟩
  simp only [jL]
  have hsp := hb.in (i := ((sI s).length : Int)) (by omega) (by omega)
  generalize hr : M (b + 1) ((sI s).length : Int) = r at hsp ⊢
  refine begin_eq hN ?_
  have row : ∀ c : Int, c < r ∨ r + 2 ≤ c → bgC M r id c = M c := by
    intro c hcc
    funext i
    simp only [bgC]
    rw [if_neg (by omega), if_neg (by omega), if_neg (by omega)]
  have e0 : shU (bgC M r id) b ((sI s).length : Int) (sI s).length = bgC M r id := by
    funext c i
    simp only [shU]
    rw [if_neg (by omega)]
  have hcnt : bgC M r id b 1 = (sI s).length := by rw [row b (by omega)]; exact hc.1
  rw [hcnt]
  have hrec : ∀ (i : Nat) (x : Int), (sI s)[i]? = some x → bgC M r id (bgC M r id (b + 1) i) 0 = x := by
    intro i x hx
    have hl := hS.lt hx
    have hap := hb.apart (i := i) (j := ((sI s).length : Int)) (by omega) (by omega) (by omega) (by omega) (by omega)
    rw [hr] at hap
    rw [row (b + 1) (by omega), row _ (by omega)]
    exact (hS.rec hx).1
  rw [show bgC M r id = shU (bgC M r id) b ((sI s).length : Int) (sI s).length from e0.symm]
  refine addRecord_lp (I := sI s) (by omega) hrec (fun i h0 h1 => by rw [row (b + 1) (by omega)]; have := hb.in h0 h1; omega) (sI s).length N (by omega) (by omega) (fun j x hj hx => by have := (hS.lt hx).1; omega) (fun q hq hgt hle => ?_)
  -- behind the loop
  have hlt : ∀ (j : Nat) (x : Int), j < q → (sI s)[j]? = some x → x < id := by
    intro j x hj hx
    rcases hle with rfl | ⟨y, hy, hyi⟩
    · omega
    · have h1 := sorted_le hS.1.2.1 (show j ≤ q - 1 by omega) hx hy
      have h2 : x ≠ id := fun z => hni (z ▸ List.mem_of_getElem? hx)
      omega
  have hpos : (sI s).findIdx (fun j => decide (id < j)) = q := findIdx_at hq hgt (fun j x hj hx => by have := hlt j x hj hx; omega)
  refine ⟨by omega, ?_⟩
  have hcnt2 : jU (shU (bgC M r id) b (q : Int) (sI s).length) (b + 1) (q : Int) r b 1 = (sI s).length := by
    simp only [jU, shU]
    rw [if_neg (by omega), if_neg (by omega)]
    exact hcnt
  rw [hcnt2, jW_id (by omega)]
  -- the new row of references
  have refs : ∀ i : Int, jU (jU (shU (bgC M r id) b (q : Int) (sI s).length) (b + 1) (q : Int) r) b 1 (((sI s).length : Int) + 1) (b + 1) i = if i = q then r else if (q : Int) < i ∧ i ≤ (sI s).length then M (b + 1) (i - 1) else M (b + 1) i := by
    intro i
    simp only [jU, shU, row (b + 1) (by omega)]
    grind (splits := 20)
  have other : ∀ c : Int, c ≠ b → c ≠ b + 1 → c < r ∨ r + 2 ≤ c → jU (jU (shU (bgC M r id) b (q : Int) (sI s).length) (b + 1) (q : Int) r) b 1 (((sI s).length : Int) + 1) c = M c := by
    intro c h1 h2 h3
    rw [jU_row h1, jU_row h2]
    funext i
    simp only [shU]
    rw [if_neg (by omega), row c h3]
  have self : ∀ c : Int, c ≠ b → c ≠ b + 1 → jU (jU (shU (bgC M r id) b (q : Int) (sI s).length) (b + 1) (q : Int) r) b 1 (((sI s).length : Int) + 1) c = bgC M r id c := by
    intro c h1 h2
    rw [jU_row h1, jU_row h2]
    funext i
    simp only [shU]
    rw [if_neg (by omega)]
  refine h _ (fun c hcc => other c (by omega) (by omega) (by omega)) ?_
  have hlen2 : (sI (sAdd s id)).length = (sI s).length + 1 := by
    show ((sI s).insertIdx _ id).length = _
    rw [hpos, List.length_insertIdx]
    grind
  have eI : sI (sAdd s id) = (sI s).insertIdx q id := by
    show (sI s).insertIdx _ id = _
    rw [hpos]
  refine ⟨⟨by omega, by rw [eI]; exact ins_sorted hS.1.2.1 hq hgt hlt, fun j hj => ?_, hS.1.2.2.2.1, hS.1.2.2.2.2⟩, by rw [hlen2]; simp [jU], fun i h0 h1 => ?_, fun i j h0 h1 h2 h3 => ?_, fun i jd hi => ?_, fun f hf => ?_, fun c hcc => ?_, fun l i hl h0 h1 => ?_⟩
  · rw [eI] at hj
    obtain ⟨k2, hk2⟩ := List.getElem?_of_mem hj
    rcases ins_at hq hk2 with ⟨_, e⟩ | ⟨_, e⟩ | ⟨_, e⟩
    · exact hS.1.2.2.1 j (List.mem_of_getElem? e)
    · rw [e]; exact hid
    · exact hS.1.2.2.1 j (List.mem_of_getElem? e)
  · rw [refs]
    split
    · rw [← hr]; exact hb.1 _ (by omega) (by omega)
    · split
      · exact hb.1 _ (by omega) (by omega)
      · exact hb.1 _ (by omega) (by omega)
  · rw [refs, refs]
    intro e
    rw [← hr] at e
    have key := fun (x y : Int) (x0 : 0 ≤ x) (x1 : x < 10) (y0 : 0 ≤ y) (y1 : y < 10) (z : M (b + 1) x = M (b + 1) y) => hb.2 x y x0 x1 y0 y1 z
    split at e <;> split at e <;> (try split at e) <;> (try split at e) <;> (have z := key _ _ (by omega) (by omega) (by omega) (by omega) e; omega)
  · rw [eI] at hi
    have eK : ∀ j : Int, j ≠ id → sK (sAdd s id) j = sK s j ∧ sF (sAdd s id) j = sF s j := by
      intro j hj
      show uI (sK s) id _ j = _ ∧ uI (sF s) id _ j = _
      simp [uI, hj]
    rw [refs]
    rcases ins_at hq hi with ⟨a1, a2⟩ | ⟨a1, a2⟩ | ⟨a1, a2⟩
    · have hl := hS.lt a2
      have hne : jd ≠ id := by have := hlt i jd a1 a2; omega
      rw [if_neg (by omega), if_neg (by omega), (eK jd hne).1, (eK jd hne).2]
      have hap := hb.apart (i := i) (j := ((sI s).length : Int)) (by omega) (by omega) (by omega) (by omega) (by omega)
      have hin := hb.in (i := i) (by omega) (by omega)
      rw [hr] at hap
      exact (hS.rec a2).congr (other _ (by omega) (by omega) (by omega)) (other _ (by omega) (by omega) (by omega)) (other _ (by omega) (by omega) (by omega)) (other _ (by omega) (by omega) (by omega))
    · subst a2
      rw [if_pos (by omega)]
      have e1 : sK (sAdd s jd) jd = -1000007 := by show uI (sK s) jd _ jd = _; simp [uI]
      have e2 : sF (sAdd s jd) jd = fun _ => [] := by show uI (sF s) jd _ jd = _; simp [uI]
      rw [e1, e2]
      exact bgC_RX.congr (self _ (by omega) (by omega)) (self _ (by omega) (by omega)) (self _ (by omega) (by omega)) (self _ (by omega) (by omega))
    · have hl := hS.lt a2
      have hne : jd ≠ id := by have := hgt (i - 1) jd (by omega) a2; omega
      rw [if_neg (by omega), if_pos (by omega), (eK jd hne).1, (eK jd hne).2, show (i : Int) - 1 = ((i - 1 : Nat) : Int) by omega]
      have hap := hb.apart (i := ((i - 1 : Nat) : Int)) (j := ((sI s).length : Int)) (by omega) (by omega) (by omega) (by omega) (by omega)
      have hin := hb.in (i := ((i - 1 : Nat) : Int)) (by omega) (by omega)
      rw [hr] at hap
      exact (hS.rec a2).congr (other _ (by omega) (by omega) (by omega)) (other _ (by omega) (by omega) (by omega)) (other _ (by omega) (by omega) (by omega)) (other _ (by omega) (by omega) (by omega))
  · rw [other _ (by omega) (by omega) (by omega)]; exact hS.2.2.2.2.2.1 f hf
  · rw [other _ (by omega) (by omega) (by omega), other _ (by omega) (by omega) (by omega), other _ (by omega) (by omega) (by omega)]; exact hS.2.2.2.2.2.2.1 c hcc
  · rw [other _ (by omega) (by omega) (by omega)]; exact hS.2.2.2.2.2.2.2 l i hl h0 h1
/-! dropping -/
def shD (M : jM) (b lo hi : Int) : jM := fun c i => if c = b + 1 ∧ lo ≤ i ∧ i < hi then M c (i + 1) else M c i
theorem dropRecord_lp {M : jM} {b m : Int} {kx : jM → Prop} (hm : m ≤ 10) : ∀ (d n : Nat) (p v : Int) (M1 : jM), d < n → p = m - d → M1 b 1 = m → v = p - 1 → 0 ≤ v → kx (shD M1 b v (m - 1)) → lp_X4_dropRecord_35 b kx n p M1 := by
  intro d
  induction d with
  | zero =>
    intro n p v M1 hn hp hc hv h0 h
    obtain ⟨n, rfl⟩ : ∃ m, n = m + 1 := ⟨n - 1, by omega⟩
    rw [lp_X4_dropRecord_35, if_neg (by omega)]
    have e : shD M1 b v (m - 1) = M1 := by
      funext c i
      unfold shD
      grind
    rw [e] at h
    exact h
  | succ d ih =>
    intro n p v M1 hn hp hc hv h0 h
    obtain ⟨n, rfl⟩ : ∃ m, n = m + 1 := ⟨n - 1, by omega⟩
    rw [lp_X4_dropRecord_35, if_pos (by omega)]
    simp (disch := omega) only [jW_id, jL, jB]
    refine ⟨by omega, by omega, ih n (p + 1) p _ (by omega) (by omega) ?_ (by omega) (by omega) ?_⟩
    · rw [jU_row (by omega)]; exact hc
    · have e : shD (jU M1 (b + 1) (p - 1) (M1 (b + 1) p)) b p (m - 1) = shD M1 b v (m - 1) := by
        funext c i
        simp only [jU, shD]
        grind (splits := 20)
      rw [e]
      exact h
theorem dropRecord_lp2 {N : Nat} {M : jM} {b id : Int} {s : aS} {k : jM → Prop} {kx : Prop} (hS : XS M b s) {i : Nat} (hi : (sI s)[i]? = some id) (h : jB (i : Int) 10 ∧ jL (M (b + 1) i) (fun x6 => jL (jW ((i : Int) + 1)) (fun x7 => lp_X4_dropRecord_35 b (fun (M10 : jM) => (jL (jU M10 b 1 (jW ((M10 b 1) - 1))) (fun M11 => (jB (M11 b 1) 10 ∧ jL (jU M11 (b + 1) (M11 b 1) x6) (fun M12 => (k M12)))))) N x7 M))) : ∀ (d n p : Nat), d < n → p + d = i → lp_X4_dropRecord_2 N b id M k kx n p := by
  have hl := hS.lt hi
  have hc := hS.cnt
  intro d
  induction d with
  | zero =>
    intro n p hn hp
    obtain ⟨n, rfl⟩ : ∃ m, n = m + 1 := ⟨n - 1, by omega⟩
    have : p = i := by omega
    subst this
    rw [lp_X4_dropRecord_2, hc.1, if_pos (by omega), (hS.rec hi).1, if_pos rfl]
    exact ⟨h.1, h.1, h.2⟩
  | succ d ih =>
    intro n p hn hp
    obtain ⟨n, rfl⟩ : ∃ m, n = m + 1 := ⟨n - 1, by omega⟩
    obtain ⟨x, hx⟩ : ∃ x, (sI s)[p]? = some x := ⟨_, List.getElem?_eq_getElem (by omega)⟩
    have hne : x ≠ id := by
      intro z
      have := List.pairwise_iff_getElem.mp hS.1.2.1
      grind
    rw [lp_X4_dropRecord_2, hc.1, if_pos (by omega), (hS.rec hx).1, if_neg hne]
    simp (disch := omega) only [jW_id, jL]
    exact ⟨by omega, ih n (p + 1) (by omega) (by omega)⟩
theorem erase_at {I : List Int} {id : Int} {i : Nat} (h : I.Pairwise (· < ·)) (hi : I[i]? = some id) : I.erase id = I.eraseIdx i := by
  have hn : I.Nodup := h.imp (fun z => by omega)
  have hm : id ∈ I := List.mem_of_getElem? hi
  rw [List.erase_eq_eraseIdx_of_idxOf]
  have h1 := List.pairwise_iff_getElem.mp h
  have h2 : I.idxOf id < I.length := List.idxOf_lt_length_of_mem hm
  have h3 : I[I.idxOf id] = id := List.getElem_idxOf h2
  grind
theorem del_at {I : List Int} {q k : Nat} {y : Int} (h : (I.eraseIdx q)[k]? = some y) : (k < q ∧ I[k]? = some y) ∨ (q ≤ k ∧ I[k + 1]? = some y) := by
  rcases Nat.lt_or_ge k q with a | a
  · exact Or.inl ⟨a, by grind⟩
  · exact Or.inr ⟨a, by grind⟩
theorem dropRecord_k {N : Nat} {M : jM} {b id : Int} {s : aS} {k : jM → Prop} (hN : 100 ≤ N) (hS : XS M b s) {i : Nat} (hi : (sI s)[i]? = some id) (h : ∀ M', (∀ c : Int, (c < b ∨ b + 47 ≤ c) → M' c = M c) → XS M' b (sDel s id) → k M') : w_X4_dropRecord N M b id k := by
  have hl := hS.lt hi
  have hc := hS.cnt
  have hb := hS.rok
  unfold w_X4_dropRecord
  refine dropRecord_lp2 hS hi ?_ i N 0 (by omega) (by omega)
  simp (disch := omega) only [jW_id, jL]
  refine ⟨by omega, dropRecord_lp (M := M) (m := (sI s).length) (by omega) ((sI s).length - 1 - i) N _ i M (by omega) (by omega) hc.1 (by omega) (by omega) ?_⟩
  have e1 : shD M b (i : Int) ((sI s).length - 1) b 1 = (sI s).length := by
    unfold shD
    rw [if_neg (by omega)]
    exact hc.1
  rw [e1, jW_id (by omega)]
  have e2 : jU (shD M b (i : Int) ((sI s).length - 1)) b 1 (((sI s).length : Int) - 1) b 1 = (sI s).length - 1 := by simp [jU]
  rw [e2]
  refine ⟨by omega, ?_⟩
  have refs : ∀ j : Int, jU (jU (shD M b (i : Int) ((sI s).length - 1)) b 1 (((sI s).length : Int) - 1)) (b + 1) (((sI s).length : Int) - 1) (M (b + 1) i) (b + 1) j = if j = (sI s).length - 1 then M (b + 1) i else if (i : Int) ≤ j ∧ j < (sI s).length - 1 then M (b + 1) (j + 1) else M (b + 1) j := by
    intro j
    simp only [jU, shD]
    grind (splits := 20)
  have other : ∀ c : Int, c ≠ b → c ≠ b + 1 → jU (jU (shD M b (i : Int) ((sI s).length - 1)) b 1 (((sI s).length : Int) - 1)) (b + 1) (((sI s).length : Int) - 1) (M (b + 1) i) c = M c := by
    intro c h1 h2
    rw [jU_row h2, jU_row h1]
    funext j
    simp only [shD]
    rw [if_neg (by omega)]
  have eI : sI (sDel s id) = (sI s).eraseIdx i := erase_at hS.1.2.1 hi
  have hlen2 : (sI (sDel s id)).length = (sI s).length - 1 := by rw [eI, List.length_eraseIdx]; grind
  refine h _ (fun c hcc => other c (by omega) (by omega)) ⟨⟨by omega, ?_, fun j hj => ?_, hS.1.2.2.2.1, hS.1.2.2.2.2⟩, ?_, fun j h0 h1 => ?_, fun j t h0 h1 h2 h3 => ?_, fun j jd hj => ?_, fun f hf => ?_, fun c hcc => ?_, fun l j hl h0 h1 => ?_⟩
  · rw [eI]
    exact hS.1.2.1.sublist (List.eraseIdx_sublist _ _)
  · rw [eI] at hj
    exact hS.1.2.2.1 j ((List.eraseIdx_sublist _ _).mem hj)
  · rw [hlen2, jU_row (by omega)]
    simp [jU]
    omega
  · rw [refs]
    split
    · exact hb.1 _ (by omega) (by omega)
    · split
      · exact hb.1 _ (by omega) (by omega)
      · exact hb.1 _ (by omega) (by omega)
  · rw [refs, refs]
    intro e
    have key := fun (x y : Int) (x0 : 0 ≤ x) (x1 : x < 10) (y0 : 0 ≤ y) (y1 : y < 10) (z : M (b + 1) x = M (b + 1) y) => hb.2 x y x0 x1 y0 y1 z
    split at e <;> split at e <;> (try split at e) <;> (try split at e) <;> (have z := key _ _ (by omega) (by omega) (by omega) (by omega) e; omega)
  · rw [eI] at hj
    rw [refs]
    rcases del_at hj with ⟨a1, a2⟩ | ⟨a1, a2⟩
    · have hl2 := hS.lt a2
      have hin := hb.in (i := j) (by omega) (by omega)
      rw [if_neg (by omega), if_neg (by omega)]
      exact (hS.rec a2).congr (other _ (by omega) (by omega)) (other _ (by omega) (by omega)) (other _ (by omega) (by omega)) (other _ (by omega) (by omega))
    · have hl2 := hS.lt a2
      have hin := hb.in (i := ((j + 1 : Nat) : Int)) (by omega) (by omega)
      rw [if_neg (by omega), if_pos (by omega), show (j : Int) + 1 = ((j + 1 : Nat) : Int) by omega]
      exact (hS.rec a2).congr (other _ (by omega) (by omega)) (other _ (by omega) (by omega)) (other _ (by omega) (by omega)) (other _ (by omega) (by omega))
  · rw [other _ (by omega) (by omega)]; exact hS.2.2.2.2.2.1 f hf
  · rw [other _ (by omega) (by omega), other _ (by omega) (by omega), other _ (by omega) (by omega)]; exact hS.2.2.2.2.2.2.1 c hcc
  · rw [other _ (by omega) (by omega)]; exact hS.2.2.2.2.2.2.2 l j hl h0 h1
