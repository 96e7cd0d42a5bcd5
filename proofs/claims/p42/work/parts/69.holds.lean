/-! holds: records in their order, their values in their bounds, their columns, the lists -/
theorem recordAt_in {a : aA} {p : Nat} {id : Int} (h : (sI (aNow a))[p]? = some id) : a_recordAt a p = id := by
  have hp : p < (sI (aNow a)).length := (List.getElem?_eq_some_iff.mp h).1
  rw [a_recordAt, if_neg (by omega), if_neg (by omega), Int.toNat_natCast, List.getD_eq_getElem?_getD, h]
  rfl
theorem recordAt_none {a : aA} {p : Int} (h0 : 0 ≤ p) (h : ((sI (aNow a)).length : Int) ≤ p) : a_recordAt a p = -1000007 := by
  rw [a_recordAt, if_neg (by omega), if_pos h]
theorem recordAt_neg {a : aA} {p : Int} (h0 : p < 0) : a_recordAt a p = -1000002 := by
  rw [a_recordAt, if_pos h0]
/-- a list, ascending -/
abbrev lsF (s : aS) (l : Int) : List Nat := (List.range 100).filter (fun j : Nat => sL s l j)
theorem lsF_len (s : aS) (l : Int) : nList s l = ((lsF s l).length : Nat) := by
  unfold nList lsF
  rw [List.countP_eq_length_filter]
theorem listAt_in {a : aA} {l : Int} {p q : Nat} (hl : sLst l) (h : (lsF (aNow a) l)[p]? = some q) : a_listAt a l p = q := by
  rw [a_listAt, if_neg (not_not_intro hl), if_neg (by omega), Int.toNat_natCast, h]
  rfl
theorem listAt_none {a : aA} {l p : Int} (hl : sLst l) (h0 : 0 ≤ p) (h : ((lsF (aNow a) l).length : Int) ≤ p) : a_listAt a l p = -1000007 := by
  have h' : (lsF (aNow a) l).length ≤ p.toNat := by omega
  rw [a_listAt, if_neg (not_not_intro hl), if_neg (by omega), List.getElem?_eq_none h']
  rfl
theorem listAt_neg {a : aA} {l p : Int} (hl : sLst l) (h0 : p < 0) : a_listAt a l p = -1000002 := by
  rw [a_listAt, if_neg (not_not_intro hl), if_pos h0]
theorem lsF_lt {s : aS} {l : Int} {p q : Nat} (h : (lsF s l)[p]? = some q) : q < 100 := by
  have := List.mem_of_getElem? h
  exact List.mem_range.mp (List.mem_filter.mp this).1
theorem lsF_up {s : aS} {l : Int} {p q r : Nat} (h : (lsF s l)[p]? = some q) (h2 : (lsF s l)[p + 1]? = some r) : q < r := by
  have hs : (lsF s l).Pairwise (· < ·) := List.pairwise_lt_range.filter _
  obtain ⟨i1, e1⟩ := List.getElem?_eq_some_iff.mp h
  obtain ⟨i2, e2⟩ := List.getElem?_eq_some_iff.mp h2
  have := (List.pairwise_iff_getElem.mp hs) p (p + 1) i1 i2 (by omega)
  rw [e1, e2] at this
  exact this
theorem locV_0 {x : Int} {V : List Int} (h : V.getD 0 0 = x) (hV : 1 ≤ V.length) : locV x V 0 = 0 := by
  cases V with
  | nil => simp at hV
  | cons y V =>
    have : y = x := h
    rw [locV_cons, if_pos this]
theorem locF_le {x : Int} : ∀ (L : List (List Int)) (v : Nat) (w : Int), 0 ≤ w → (∀ V ∈ L, 1 ≤ V.length ∧ V.length ≤ 4) → v < L.length → (fV L v).getD 0 0 = x → locF x L w ≤ 10 * (w + v) := by
  intro L
  induction L with
  | nil => intro v w _ _ hv; simp at hv
  | cons V L ih =>
    intro v w hw hL hv hx
    rw [locF_cons]
    have hV := hL V (by simp)
    cases v with
    | zero =>
      have e : locV x V 0 = 0 := locV_0 hx hV.1
      rw [e, if_neg (by decide)]
      omega
    | succ v =>
      have hx' : (fV L v).getD 0 0 = x := by
        rw [← hx]
        unfold fV
        simp
      by_cases c : locV x V 0 = -1000007
      · rw [if_pos c]
        have := ih v (w + 1) (by omega) (fun W hW => hL W (by simp [hW])) (by simpa using hv) hx'
        omega
      · rw [if_neg c]
        have := locV_lt (x := x) (V := V) (j := 0) (by omega)
        omega
section HO
variable {N : Nat} {a : aA}
theorem ho403 (hN : 300 ≤ N) {l : Int} (hl : sLst l) {M : jM} (hX : XR M a) {kx : Int → Prop} (K : kx 1) : ∀ (d n p : Nat) (last : Int), d < n → p + d = (lsF (aNow a) l).length → (p = 0 → last = -1) → (∀ q, 0 < p → (lsF (aNow a) l)[p - 1]? = some q → last = (q : Nat)) → lp_L_holds_403 N 0 l M kx n 1 last p := by
  have hlen := lsF_len (aNow a) l
  have h100 := nList_ok (aNow a) l
  intro d
  induction d with
  | zero =>
    intro n p last hn hp h0 h1
    obtain ⟨n, rfl⟩ : ∃ m, n = m + 1 := ⟨n - 1, by omega⟩
    rw [lp_L_holds_403]
    refine v_listSize hN hX (fun w hw => ?_)
    rw [listSize_in hl] at hw
    rw [if_neg (by omega)]
    exact K
  | succ d ih =>
    intro n p last hn hp h0 h1
    obtain ⟨n, rfl⟩ : ∃ m, n = m + 1 := ⟨n - 1, by omega⟩
    rw [lp_L_holds_403]
    refine v_listSize hN hX (fun w hw => ?_)
    rw [listSize_in hl] at hw
    rw [if_pos (by omega), if_neg (by omega)]
    obtain ⟨q, hq⟩ : ∃ q, (lsF (aNow a) l)[p]? = some q := ⟨_, List.getElem?_eq_getElem (by omega)⟩
    have eq := listAt_in (a := a) hl hq
    have hq100 := lsF_lt hq
    have hlast : last < q := by
      cases p with
      | zero => have := h0 rfl; omega
      | succ p =>
        obtain ⟨r, hr⟩ : ∃ r, (lsF (aNow a) l)[p]? = some r := ⟨_, List.getElem?_eq_getElem (by omega)⟩
        have := h1 r (by omega) hr
        have := lsF_up hr hq
        omega
    refine v_listAt hN hX (fun w1 hw1 => ?_)
    rw [if_neg (by omega)]
    refine v_listAt hN hX (fun w2 hw2 => ?_)
    rw [if_pos (by omega)]
    refine v_listAt hN hX (fun w3 hw3 => ?_)
    refine jL_w (by omega) (fun z hz => ?_)
    subst hz
    refine ih n (p + 1) w3 (by omega) (by omega) (fun z => by omega) (fun r _ hr => ?_)
    rw [Nat.add_sub_cancel] at hr
    have : r = q := Option.some.inj (hr.symm.trans hq)
    omega
theorem ho388 (hN : 300 ≤ N) {M : jM} (hX : XR M a) {kx : Int → Prop} (K : kx 1) : ∀ (d n p : Nat), d < n → p + d = 8 → lp_L_holds_388 N 0 M kx n 1 p := by
  intro d
  induction d with
  | zero =>
    intro n p hn hp
    obtain ⟨n, rfl⟩ : ∃ m, n = m + 1 := ⟨n - 1, by omega⟩
    rw [lp_L_holds_388, if_neg (by omega)]
    exact K
  | succ d ih =>
    intro n p hn hp
    obtain ⟨n, rfl⟩ : ∃ m, n = m + 1 := ⟨n - 1, by omega⟩
    have hl : sLst (p : Int) := by omega
    have hlen := lsF_len (aNow a) p
    have h100 := nList_ok (aNow a) p
    rw [lp_L_holds_388, if_pos (by omega), if_neg (by omega)]
    refine ho403 hN hl hX ?_ (lsF (aNow a) p).length N 0 (-1) (by omega) (by omega) (fun _ => rfl) (fun q z => by omega)
    rw [if_neg (by omega)]
    refine v_listSize hN hX (fun w hw => ?_)
    rw [listSize_in hl] at hw
    refine v_listAt hN hX (fun w2 hw2 => ?_)
    rw [listAt_none hl (by omega) (by omega)] at hw2
    rw [if_pos hw2]
    refine v_listAt hN hX (fun w3 hw3 => ?_)
    rw [listAt_neg hl (by decide)] at hw3
    rw [if_pos hw3]
    refine jL_w (by omega) (fun z hz => ?_)
    subst hz
    exact ih n (p + 1) (by omega) (by omega)
theorem ho355 (hN : 300 ≤ N) {id : Int} (hid : id ∈ sI (aNow a)) {kx : Int → jM → Prop} (K : ∀ M' : jM, XR M' a → kx 1 M') : ∀ (d n p : Nat) (M : jM), d < n → p + d = 6 → XR M a → lp_L_holds_355 N 0 id kx n 1 p M := by
  intro d
  induction d with
  | zero =>
    intro n p M hn hp hX
    obtain ⟨n, rfl⟩ : ∃ m, n = m + 1 := ⟨n - 1, by omega⟩
    rw [lp_L_holds_355, if_neg (by omega)]
    exact K M hX
  | succ d ih =>
    intro n p M hn hp hX
    obtain ⟨n, rfl⟩ : ∃ m, n = m + 1 := ⟨n - 1, by omega⟩
    rw [lp_L_holds_355, if_pos (by omega), if_neg (by omega)]
    refine nums_k hN hX hid (by omega) (fun M1 hX1 => ?_)
    refine jL_w (by omega) (fun z hz => ?_)
    subst hz
    exact ih n (p + 1) M1 (by omega) (by omega) hX1
theorem ho224 (hN : 300 ≤ N) {id f : Int} (hid : id ∈ sI (aNow a)) (hf : sFld f) {M : jM} (hX : XR M a) {kx : Int → Prop} (K : kx 1) : ∀ (d n p : Nat), d < n → p + d = (sF (aNow a) id f).length → lp_L_holds_224 N 0 id f M kx n 1 p := by
  have hok := (hX.aok.2 id hid).2.2 f hf
  generalize hL : sF (aNow a) id f = L at hok
  have hl5 := hok.1
  have hLl : fL L = (L.length : Nat) := rfl
  intro d
  induction d with
  | zero =>
    intro n p hn hp
    obtain ⟨n, rfl⟩ : ∃ m, n = m + 1 := ⟨n - 1, by omega⟩
    rw [lp_L_holds_224]
    refine v_values hN hX (fun w hw => ?_)
    rw [values_in hid hf, hL] at hw
    rw [if_neg (by omega)]
    exact K
  | succ d ih =>
    intro n p hn hp
    obtain ⟨n, rfl⟩ : ∃ m, n = m + 1 := ⟨n - 1, by omega⟩
    have v1 : (p : Int) < fL L := by omega
    have h4 := fS_ok hok (by omega : (0 : Int) ≤ p) v1
    rw [lp_L_holds_224]
    refine v_values hN hX (fun w hw => ?_)
    rw [values_in hid hf, hL] at hw
    rw [if_pos (by omega), if_neg (by omega)]
    refine v_subvalues hN hX (fun w1 hw1 => ?_)
    rw [subvalues_in hid hf (by rw [hL]; omega), hL] at hw1
    rw [if_neg (by omega)]
    refine v_subvalues hN hX (fun w2 hw2 => ?_)
    rw [subvalues_in hid hf (by rw [hL]; omega), hL] at hw2
    rw [if_pos (by omega)]
    refine v_subvalues hN hX (fun w3 hw3 => ?_)
    rw [subvalues_in hid hf (by rw [hL]; omega), hL] at hw3
    refine v_get hN hX (fun w4 hw4 => ?_)
    rw [get_out (by rw [hL]; omega)] at hw4
    rw [if_pos hw4]
    refine v_get hN hX (fun w5 hw5 => ?_)
    rw [get_in hid hf (by rw [hL]; omega) (by rw [hL]; omega), hL] at hw5
    have h5 := fN_ok hok (by omega : (0 : Int) ≤ p) v1 (by omega : (0 : Int) ≤ 0) (by omega)
    refine v_locate hN hX (fun w6 hw6 => ?_)
    rw [a_locate, if_neg (fun q => q.elim (fun z => z hid) (fun z => z hf)), if_neg (by omega), hL] at hw6
    have hle := locF_le (x := w5) L p 0 (by omega) (fun V hV => ⟨(hok.2 V hV).1, (hok.2 V hV).2.1⟩) (by omega) (by rw [hw5]; rfl)
    rw [jW_id (by omega), if_pos (by omega)]
    refine jL_w (by omega) (fun z hz => ?_)
    subst hz
    exact ih n (p + 1) (by omega) (by omega)
theorem ho129 (hN : 300 ≤ N) {id : Int} (hid : id ∈ sI (aNow a)) {M : jM} (hX : XR M a) {kx : Int → Int → Prop} (K : kx 1 (lmax (aNow a) id 4)) : ∀ (d n p : Nat), d < n → p + d = 4 → 0 ≤ lmax (aNow a) id p → lp_L_holds_129 N 0 id M kx n 1 (lmax (aNow a) id p) p := by
  have hs := hX.aok
  intro d
  induction d with
  | zero =>
    intro n p hn hp _
    obtain ⟨n, rfl⟩ : ∃ m, n = m + 1 := ⟨n - 1, by omega⟩
    rw [lp_L_holds_129, if_neg (by omega)]
    have e : p = 4 := by omega
    subst e
    exact K
  | succ d ih =>
    intro n p hn hp hm
    obtain ⟨n, rfl⟩ : ∃ m, n = m + 1 := ⟨n - 1, by omega⟩
    have hf : sFld (p : Int) := by omega
    have hok := (hs.2 id hid).2.2 p hf
    have hl := fL_ok hok
    rw [lp_L_holds_129, if_pos (by omega), if_neg (by omega)]
    refine v_associated hN hX (fun x53 h53 => ?_)
    rw [a_associated, if_neg (not_not_intro hf)] at h53
    have hsa := sA_ok hs hf
    refine jL_s (fun x54 => x54 = lmax (aNow a) id (p + 1)) (fun j hj => ?_) (fun x54 h54 => ?_)
    · have e : lmax (aNow a) id (p + 1) = max (lmax (aNow a) id p) (lineL (aNow a) id p) := rfl
      by_cases c : x53 = 1
      · have e2 : lineL (aNow a) id p = fL (sF (aNow a) id p) := by unfold lineL; rw [if_pos (by omega)]
        rw [if_pos c]
        refine v_values hN hX (fun w hw => ?_)
        rw [values_in hid hf] at hw
        by_cases c2 : w ≤ lmax (aNow a) id p
        · rw [if_pos c2]; exact hj _ (by rw [e, e2]; omega)
        · rw [if_neg c2]
          refine v_values hN hX (fun w2 hw2 => ?_)
          rw [values_in hid hf] at hw2
          exact hj _ (by rw [e, e2]; omega)
      · have e2 : lineL (aNow a) id p = 0 := by unfold lineL; rw [if_neg (by omega)]
        rw [if_neg c]; exact hj _ (by rw [e, e2]; omega)
    have h54 : x54 = lmax (aNow a) id (p + 1) := h54
    refine v_values hN hX (fun w hw => ?_)
    rw [values_in hid hf] at hw
    refine jL_s (fun x57 => x57 = 1) (fun j hj => ?_) (fun x57 h57 => ?_)
    · rw [if_neg (by omega)]
      refine v_values hN hX (fun w2 hw2 => ?_)
      rw [values_in hid hf] at hw2
      rw [if_pos (by omega)]
      refine v_values hN hX (fun w3 hw3 => ?_)
      rw [values_in hid hf] at hw3
      refine v_subvalues hN hX (fun w4 hw4 => ?_)
      rw [subvalues_out (by omega)] at hw4
      rw [if_pos hw4]; exact hj _ rfl
    have h57 : x57 = 1 := h57
    subst h57
    have hok5 := hok.1
    refine ho224 hN hid hf hX ?_ (sF (aNow a) id p).length N 0 (by omega) (by omega)
    refine jL_w (by omega) (fun z hz => ?_)
    subst hz
    rw [h54]
    refine ih n (p + 1) (by omega) (by omega) ?_
    show 0 ≤ max (lmax (aNow a) id p) (lineL (aNow a) id p)
    omega
theorem ho47 (hN : 300 ≤ N) {kx : Int → jM → Prop} (K : ∀ M' : jM, XR M' a → kx 1 M') : ∀ (d n p : Nat) (M : jM), d < n → p + d = (sI (aNow a)).length → XR M a → lp_L_holds_47 N 0 kx n 1 p M := by
  intro d
  induction d with
  | zero =>
    intro n p M hn hp hX
    obtain ⟨n, rfl⟩ : ∃ m, n = m + 1 := ⟨n - 1, by omega⟩
    rw [lp_L_holds_47]
    refine v_records hN hX (fun w hw => ?_)
    rw [if_neg (by omega)]
    exact K M hX
  | succ d ih =>
    intro n p M hn hp hX
    obtain ⟨n, rfl⟩ : ∃ m, n = m + 1 := ⟨n - 1, by omega⟩
    have hs := hX.aok
    have h10 := hs.1.1
    rw [lp_L_holds_47]
    refine v_records hN hX (fun w hw => ?_)
    rw [if_pos (by omega), if_neg (by omega)]
    obtain ⟨id, hi⟩ : ∃ id, (sI (aNow a))[p]? = some id := ⟨_, List.getElem?_eq_getElem (by omega)⟩
    have hid : id ∈ sI (aNow a) := List.mem_of_getElem? hi
    obtain ⟨hb, hk, hfs⟩ := hs.2 id hid
    refine v_recordAt hN hX (fun z hz => ?_)
    rw [recordAt_in hi] at hz
    subst hz
    refine jL_s (fun x34 => x34 = 1) (fun j hj => ?_) (fun x34 h34 => ?_)
    · rw [if_neg (by omega), if_pos (by omega)]
      refine jL_s0 True (fun j2 hj2 => ?_) (fun _ => ?_)
      · by_cases c : (p : Int) = 0
        · rw [if_pos c]; exact hj2 trivial
        · rw [if_neg c]
          obtain ⟨q, rfl⟩ : ∃ q, p = q + 1 := ⟨p - 1, by omega⟩
          obtain ⟨id2, hi2⟩ : ∃ id2, (sI (aNow a))[q]? = some id2 := ⟨_, List.getElem?_eq_getElem (by omega)⟩
          rw [jW_id (by omega), show ((q + 1 : Nat) : Int) - 1 = (q : Int) by omega]
          refine v_recordAt hN hX (fun y hy => ?_)
          rw [recordAt_in hi2] at hy
          obtain ⟨i1, e1⟩ := List.getElem?_eq_some_iff.mp hi2
          obtain ⟨i2, e2⟩ := List.getElem?_eq_some_iff.mp hi
          have hlt := (List.pairwise_iff_getElem.mp hs.1.2.1) q (q + 1) i1 i2 (by omega)
          rw [e1, e2] at hlt
          rw [if_pos (by omega)]; exact hj2 trivial
      · refine v_locker hN hX (fun y hy => ?_)
        rw [locker_in hid] at hy
        by_cases c : y = -1000007
        · rw [if_pos c]; exact hj _ rfl
        · rw [if_neg c]
          refine v_locker hN hX (fun y2 hy2 => ?_)
          rw [locker_in hid] at hy2
          rw [if_neg (by omega)]
          refine v_locker hN hX (fun y3 hy3 => ?_)
          rw [locker_in hid] at hy3
          rw [if_pos (by omega)]; exact hj _ rfl
    have h34 : x34 = 1 := h34
    subst h34
    refine ho129 hN hid hX ?_ 4 N 0 (by omega) (by omega) (by simp [lmax])
    refine jL_s (fun x41 => x41 = 1) (fun j hj => ?_) (fun x41 h41 => ?_)
    · rw [if_neg (by omega)]
      refine v_lines hN hX (fun y hy => ?_)
      rw [lines_in hid] at hy
      have l0 : 0 ≤ lineL (aNow a) z 0 := by
        have := fL_ok (hfs 0 (by decide))
        unfold lineL
        split <;> omega
      have e : lmax (aNow a) z 4 = nLines (aNow a) z := by
        show max (max (max (max 0 (lineL (aNow a) z 0)) (lineL (aNow a) z 1)) (lineL (aNow a) z 2)) (lineL (aNow a) z 3) = _
        unfold nLines
        omega
      rw [if_pos (by omega)]; exact hj _ rfl
    have h41 : x41 = 1 := h41
    subst h41
    refine ho355 hN hid (fun M1 hX1 => ?_) 6 N 0 M (by omega) (by omega) hX
    refine jL_w (by omega) (fun q hq => ?_)
    subst hq
    exact ih n (p + 1) M1 (by omega) (by omega) hX1
end HO
theorem holds_k {N : Nat} {M : jM} {a : aA} {k : Int → jM → Prop} (hN : 300 ≤ N) (hX : XR M a) (K : ∀ M' : jM, XR M' a → k 1 M') : w_L_holds N M 0 k := by
  have h10 := hX.aok.1.1
  unfold w_L_holds
  refine v_records hN hX (fun x1 h1 => ?_)
  refine jL_s (fun x2 => x2 = 1) (fun j hj => ?_) (fun x2 h2 => ?_)
  · rw [if_neg (by omega)]
    refine v_records hN hX (fun y hy => ?_)
    rw [if_pos (by omega)]
    refine v_records hN hX (fun y2 hy2 => ?_)
    refine v_recordAt hN hX (fun y3 hy3 => ?_)
    rw [recordAt_none (by omega) (by omega)] at hy3
    rw [if_pos hy3]
    refine v_recordAt hN hX (fun y4 hy4 => ?_)
    rw [recordAt_neg (by decide)] at hy4
    rw [if_pos hy4]; exact hj _ rfl
  have h2 : x2 = 1 := h2
  subst h2
  refine ho47 hN (fun M1 hX1 => ?_) (sI (aNow a)).length N 0 M (by omega) (by omega) hX
  exact ho388 hN hX1 (K M1 hX1) 8 N 0 (by omega) (by omega)
