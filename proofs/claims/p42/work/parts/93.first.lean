/-! THE FIRST MEMORY holds the empty file on both sides -/
theorem jV_0 {c i : Int} (h : jK c / 10000 ≠ 4 ∧ jK c / 10000 ≠ 5) : jV c i 0 := ⟨by decide, fun _ => Or.inl rfl, fun _ => by omega, fun z => absurd z h.1, fun z => absurd z h.2⟩
theorem jOK_state {b : Int} (hb : 1 ≤ b ∧ b ≤ 190) (hk : ∀ d : Int, 0 ≤ d → d < 47 → jK (b + d) = jKs d) {d i : Int} (h0 : 0 ≤ d) (h1 : d < 47) : jV (b + d) i (mS b d i) := by
  have kd := hk d h0 h1
  by_cases z : d = 1
  · subst z
    have hv : ∃ q : Int, 0 ≤ q ∧ q < 10 ∧ mS b 1 i = b + (2 + 4 * q) := by
      unfold mS
      rw [if_pos rfl]
      by_cases y : 0 ≤ i ∧ i < 10
      · rw [if_pos y]
        exact ⟨i, y.1, y.2, by omega⟩
      · rw [if_neg y]
        exact ⟨0, by omega, by omega, by omega⟩
    obtain ⟨q, q0, q1, hq⟩ := hv
    have k2 : jK (b + (2 + 4 * q)) = 2 := by
      rw [hk _ (by omega) (by omega)]
      unfold jKs
      rw [if_neg (by omega), if_neg (by omega), if_pos (by omega), if_pos (by omega)]
    have k1 : jK (b + 1) = 40010 := by rw [kd]; decide
    rw [hq]
    exact jV_r (by omega) k2 (by rw [k1]; decide)
  · by_cases y : 2 ≤ d ∧ d < 42
    · by_cases x : (d - 2) % 4 = 0
      · have k2 : jK (b + d) = 2 := by
          rw [kd]
          unfold jKs
          rw [if_neg (by omega), if_neg (by omega), if_pos (by omega), if_pos x]
        have hv : mS b d i = 0 ∨ mS b d i = -1000007 := by
          unfold mS
          rw [if_neg z, if_pos (by omega)]
          by_cases w : i = 1
          · rw [if_pos w]; exact Or.inr rfl
          · rw [if_neg w]; exact Or.inl rfl
        exact jV_i (by rcases hv with hv | hv <;> rw [hv] <;> decide) (by unfold jZ; rw [k2]; omega) (by omega)
      · have hz : mS b d i = 0 := mS_0 (by omega)
        have k2 : jK (b + d) < 20000 := by
          rw [kd]
          unfold jKs
          rw [if_neg (by omega), if_neg (by omega), if_pos (by omega), if_neg x]
          split
          · omega
          · split <;> omega
        have k3 : 0 ≤ jK (b + d) := by
          rw [kd]
          unfold jKs
          rw [if_neg (by omega), if_neg (by omega), if_pos (by omega), if_neg x]
          split
          · omega
          · split <;> omega
        rw [hz]
        exact jV_0 (by omega)
    · rcases (by omega : d = 0 ∨ d = 42 ∨ d = 43 ∨ d = 44 ∨ d = 45 ∨ d = 46) with rfl | rfl | rfl | rfl | rfl | rfl
      · have k1 : jK (b + 0) = 5 := by rw [kd]; decide
        have hz : mS b 0 i = 0 := by simp [mS]
        rw [hz]
        exact jV_0 (by omega)
      · have k1 : jK (b + 42) = 20004 := by rw [kd]; decide
        refine jV_z ?_ (by omega)
        simp only [mS]
        rw [if_neg (by decide), if_neg (by omega), if_pos trivial]
        split
        · exact Or.inr rfl
        · exact Or.inl rfl
      · have k1 : jK (b + 43) = 10006 := by rw [kd]; decide
        refine jV_i ?_ (by unfold jZ; rw [k1]; omega) (by omega)
        simp only [mS]
        rw [if_neg (by decide), if_neg (by omega), if_neg (by decide), if_pos trivial]
        split
        · omega
        · split <;> omega
      · have k1 : jK (b + 44) = 10006 := by rw [kd]; decide
        refine jV_i ?_ (by unfold jZ; rw [k1]; omega) (by omega)
        simp only [mS]
        rw [if_neg (by decide), if_neg (by omega), if_neg (by decide), if_neg (by decide), if_pos trivial]
        split
        · omega
        · split <;> omega
      · have k1 : jK (b + 45) = 10006 := by rw [kd]; decide
        refine jV_i ?_ (by unfold jZ; rw [k1]; omega) (by omega)
        simp only [mS]
        rw [if_neg (by decide), if_neg (by omega), if_neg (by decide), if_neg (by decide), if_neg (by decide), if_pos trivial]
        split <;> omega
      · have k1 : jK (b + 46) = 20800 := by rw [kd]; decide
        have hz : mS b 46 i = 0 := by simp [mS]
        rw [hz]
        exact jV_0 (by omega)
theorem mM_ok : jOK mM := by
  intro c i
  by_cases h1 : 1 ≤ c ∧ c < 48
  · have := jOK_state (b := 1) (by omega) (fun d d0 d1 => (hb_1 d d0 d1).1) (d := c - 1) (i := i) (by omega) (by omega)
    unfold mM
    rw [if_pos h1]
    rw [show (1 : Int) + (c - 1) = c by omega] at this
    exact this
  · by_cases h2 : c = 48
    · subst h2
      unfold mM
      rw [if_neg (by omega), if_pos rfl]
      have k1 : jK 48 = 50004 := by decide
      by_cases y : 0 ≤ i ∧ i < 4
      · rw [if_pos y]
        refine jV_s (by omega) ?_ (by rw [k1]; decide)
        rcases (by omega : i = 0 ∨ i = 1 ∨ i = 2 ∨ i = 3) with rfl | rfl | rfl | rfl <;> decide
      · rw [if_neg y]
        exact jV_s (by decide) (by decide) (by rw [k1]; decide)
    · by_cases h3 : 49 ≤ c ∧ c < 237
      · have hq : ∃ q : Nat, q < 4 ∧ c = ((49 + 47 * q : Nat) : Int) + (c - 49) % 47 := ⟨((c - 49) / 47).toNat, by omega, by omega⟩
        obtain ⟨q, hq4, hq⟩ := hq
        have := jOK_state (b := ((49 + 47 * q : Nat) : Int)) (by omega) (fun d d0 d1 => (hb_q q hq4 d d0 d1).1) (d := (c - 49) % 47) (i := i) (by omega) (by omega)
        unfold mM
        rw [if_neg h1, if_neg h2, if_pos h3, show c - (c - 49) % 47 = ((49 + 47 * q : Nat) : Int) by omega]
        rw [← hq] at this
        exact this
      · unfold mM
        rw [if_neg h1, if_neg h2, if_neg h3]
        by_cases h4 : c = 242
        · subst h4
          rw [if_pos rfl]
          have k1 : jK 242 = 2 := by decide
          exact jV_i (by split <;> decide) (by unfold jZ; rw [k1]; omega) (by omega)
        · rw [if_neg h4]
          refine jV_0 ?_
          have : ∀ x : Int, (x < 1 ∨ 237 ≤ x) → jK x / 10000 ≠ 4 ∧ jK x / 10000 ≠ 5 := by
            intro x hx
            unfold jK
            repeat' split
            all_goals omega
          exact this c (by omega)
def s0 : aS := ([], fun _ => -1000007, fun _ _ => [], fun f => mS 0 42 f, fun c w => if w = 0 then mS 0 43 c else if w = 1 then mS 0 44 c else mS 0 45 c, fun _ _ => false)
def a0 : aA := (s0, [], [], [])
theorem mS_hi (b d i : Int) (h : 42 ≤ d) : mS b d i = mS 0 d i := by
  have h1 : ¬ d = 1 := by omega
  have h2 : ¬ (2 ≤ d ∧ d < 42 ∧ (d - 2) % 4 = 0) := by omega
  unfold mS
  rw [if_neg h1, if_neg h2, if_neg h1]
theorem s0_ok : sOK s0 := by
  refine ⟨by decide, List.Pairwise.nil, fun id h => absurd h List.not_mem_nil, fun f hf => ?_, fun c hc => ?_⟩
  · show mS 0 42 f = 0 ∨ mS 0 42 f = 1
    rcases (by omega : f = 0 ∨ f = 1 ∨ f = 2 ∨ f = 3) with rfl | rfl | rfl | rfl <;> decide
  · show 0 ≤ mS 0 43 c ∧ mS 0 43 c ≤ 4 ∧ sFld (mS 0 44 c) ∧ sFld (mS 0 45 c)
    rcases (by omega : c = 0 ∨ c = 1 ∨ c = 2 ∨ c = 3 ∨ c = 4 ∨ c = 5) with rfl | rfl | rfl | rfl | rfl | rfl <;> decide
theorem mM_1 (d i : Int) (h0 : 0 ≤ d) (h1 : d < 47) : mM (1 + d) i = mS 1 d i := (hb_1 d h0 h1).2 i
theorem mM_XS : XS mM 1 s0 := by
  refine ⟨s0_ok, ?_, fun i h0 h1 => ?_, fun i j h0 h1 h2 h3 e => ?_, fun i id hi => ?_, fun f hf => ?_, fun c hc => ?_, fun l i hl h0 h1 => ?_⟩
  · exact (mM_1 0 1 (by decide) (by decide)).trans (by decide)
  · refine ⟨i, h0, h1, ?_⟩
    rw [mM_1 1 i (by decide) (by decide)]
    unfold mS
    rw [if_pos rfl, if_pos ⟨h0, h1⟩]
  · rw [mM_1 1 i (by decide) (by decide), mM_1 1 j (by decide) (by decide)] at e
    unfold mS at e
    rw [if_pos rfl, if_pos rfl, if_pos ⟨h0, h1⟩, if_pos ⟨h2, h3⟩] at e
    omega
  · have : ([] : List Int)[i]? = some id := hi
    simp at this
  · rw [mM_1 42 f (by decide) (by decide)]
    exact mS_hi 1 42 f (by decide)
  · rw [mM_1 43 c (by decide) (by decide), mM_1 44 c (by decide) (by decide), mM_1 45 c (by decide) (by decide)]
    exact ⟨mS_hi 1 43 c (by decide), mS_hi 1 44 c (by decide), mS_hi 1 45 c (by decide)⟩
  · rw [mM_1 46 _ (by decide) (by decide)]
    have : mS 1 46 (100 * l + i) = 0 := by simp [mS]
    rw [this]
    rfl
theorem mM_48 {i : Int} (h0 : 0 ≤ i) (h1 : i < 4) : mM 48 i = 49 + 47 * i := by
  unfold mM
  rw [if_neg (by omega), if_pos rfl, if_pos ⟨h0, h1⟩]
theorem mM_row {i j : Int} (h0 : 0 ≤ i) (h1 : i < 4) (j0 : 0 ≤ j) (j1 : j < 10) : mM (49 + 47 * i + 1) j = 49 + 47 * i + 2 + 4 * j := by
  have e : (49 + 47 * i + 1 - 49) % 47 = 1 := by omega
  unfold mM
  rw [if_neg (by omega), if_neg (by omega), if_pos (by omega), e]
  unfold mS
  rw [if_pos rfl, if_pos ⟨j0, j1⟩]
  omega
theorem mM_XR : XR mM a0 := by
  refine ⟨mM_XS, ?_, by decide, fun i h0 h1 => ⟨i, h0, h1, mM_48 h0 h1⟩, fun i j h0 h1 h2 h3 e => ?_, fun i h0 h1 j j0 j1 => ⟨j, j0, j1, ?_⟩, fun i h0 h1 j k j0 j1 k0 k1 e => ?_, fun i s hi => ?_, ?_, by decide, fun i x hi => ?_, ?_, by decide, fun i x hi => ?_⟩
  · decide
  · rw [mM_48 h0 h1, mM_48 h2 h3] at e
    omega
  · rw [mM_48 h0 h1, mM_row h0 h1 j0 j1]
  · rw [mM_48 h0 h1, mM_row h0 h1 j0 j1, mM_row h0 h1 k0 k1] at e
    omega
  · have : ([] : List aS)[i]? = some s := hi
    simp at this
  · decide
  · have : ([] : List Int)[i]? = some x := hi
    simp at this
  · decide
  · have : ([] : List Int)[i]? = some x := hi
    simp at this
