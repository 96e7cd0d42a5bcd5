/-! MEMORY: the class's object graph and the reference's arrays as one function of (cell, place); a cell's number is its place in the order of making. jI: an int's machine word. -/
abbrev jM : Type := Int → Int → Int
abbrev jG : Type := va_G × (ClassId × ClassId × ClassId × ClassId × ClassId) × Nat
def jI (a : Int) : Int32 := Int32.ofInt a
abbrev jR (a : Int) : Prop := -2147483648 ≤ a ∧ a < 2147483648
def jW (a : Int) : Int := (a + 2147483648) % 4294967296 - 2147483648
def jU (M : jM) (c i v : Int) : jM := fun c' i' => if c' = c ∧ i' = i then v else M c' i'
def jC (M : jM) (s sp d dp n : Int) : jM := fun c' i' => if c' = d ∧ dp ≤ i' ∧ i' < dp + n then M s (sp + (i' - dp)) else M c' i'
def jL {α : Type} (e : α) (k : α → Prop) : Prop := k e
def jAnd (a b : Int) : Int := (jI a &&& jI b).toInt
def jOr (a b : Int) : Int := (jI a ||| jI b).toInt
def jXor (a b : Int) : Int := (jI a ^^^ jI b).toInt
def jShl (a b : Int) : Int := (jI a <<< (jI b &&& 31)).toInt
def jShr (a b : Int) : Int := (jI a >>> (jI b &&& 31)).toInt
def jDiv (a b : Int) : Int := (jI a / jI b).toInt
def jRem (a b : Int) : Int := (jI a - jI a / jI b * jI b).toInt
def jMax (a b : Int) : Int := if a < b then b else a
def jMin (a b : Int) : Int := if b < a then b else a
def jAbs (a : Int) : Int := if 0 ≤ a then a else jW (0 - a)
def jChr (a : Int) : Int := a % 65536
/-! a cell's kind: 1 ExplodedList, 2 FileRecord, 3 Sequence, 4 Signs, 5 State, 6 TextReader, 7 MultiValueFile, 10000 + n: ints, 20000 + n: booleans, 30000 + n: characters, 40000 + n: records, 50000 + n: states -/
def jKs (d : Int) : Int := if d = 0 then 5 else if d = 1 then 40010 else if d < 42 then (if (d - 2) % 4 = 0 then 2 else if (d - 2) % 4 = 1 then 10004 else if (d - 2) % 4 = 2 then 10020 else 10080) else if d = 42 then 20004 else if d < 46 then 10006 else 20800
def jK (c : Int) : Int := if c < 0 then 0 else if c = 0 then 7 else if c < 48 then jKs (c - 1) else if c = 48 then 50004 else if c < 237 then jKs ((c - 49) % 47) else if c = 237 then 4 else if c = 238 then 30090 else if c = 239 then 4 else if c = 240 then 30400
  else if c = 241 then 6 else if c = 242 then 2 else if c = 243 then 10004 else if c = 244 then 10020 else if c = 245 then 10080 else if c = 246 then 3 else if c = 247 then 10020 else if c = 248 then 1 else if c < 252 then 10200 else 0
def jZ (c i : Int) : Prop := jK c / 10000 = 2 ∨ (jK c = 1 ∧ i = 4) ∨ (jK c = 6 ∧ i = 4)
def jV (c i v : Int) : Prop := jR v ∧ (jZ c i → v = 0 ∨ v = 1) ∧ (jK c / 10000 = 3 → 0 ≤ v ∧ v < 65536) ∧ (jK c / 10000 = 4 → jK v = 2) ∧ (jK c / 10000 = 5 → jK v = 5)
def jOK (M : jM) : Prop := ∀ c i, jV c i (M c i)
theorem jW_R (a : Int) : jR (jW a) := by unfold jW; constructor <;> omega
theorem jW_id {a : Int} (h : jR a) : jW a = a := by unfold jW; omega
theorem jI_W (a : Int) : jI (jW a) = jI a := by
  apply Int32.toInt_inj.mp
  unfold jI
  rw [Int32.toInt_ofInt, Int32.toInt_ofInt]
  unfold jW
  rw [Int.bmod_def, Int.bmod_def, show ((Int32.size : Nat) : Int) = 4294967296 from rfl]
  split <;> split <;> omega
theorem jI_toInt {a : Int} (h : jR a) : (jI a).toInt = a := by
  unfold jI
  rw [Int32.toInt_ofInt, Int.bmod_def, show ((Int32.size : Nat) : Int) = 4294967296 from rfl]
  split <;> omega
theorem jI_of (x : Int32) : jI x.toInt = x := Int32.ofInt_toInt x
theorem jR_of (x : Int32) : jR x.toInt := ⟨Int32.le_toInt x, Int32.toInt_lt x⟩
theorem jI_add (a b : Int) : jI a + jI b = jI (jW (a + b)) := by rw [jI_W]; exact (Int32.ofInt_add a b).symm
theorem jI_sub (a b : Int) : jI a - jI b = jI (jW (a - b)) := by rw [jI_W]; exact (Int32.ofInt_sub a b).symm
theorem jI_mul (a b : Int) : jI a * jI b = jI (jW (a * b)) := by rw [jI_W]; exact (Int32.ofInt_mul a b).symm
theorem jI_neg (a : Int) : -jI a = jI (jW (-a)) := by rw [jI_W]; exact (Int32.ofInt_neg a).symm
theorem jI_lt {a b : Int} (ha : jR a) (hb : jR b) : jI a < jI b ↔ a < b := by rw [Int32.lt_iff_toInt_lt, jI_toInt ha, jI_toInt hb]
theorem jI_le {a b : Int} (ha : jR a) (hb : jR b) : jI a ≤ jI b ↔ a ≤ b := by rw [Int32.le_iff_toInt_le, jI_toInt ha, jI_toInt hb]
theorem jI_eq {a b : Int} (ha : jR a) (hb : jR b) : jI a = jI b ↔ a = b := by rw [← Int32.toInt_inj, jI_toInt ha, jI_toInt hb]
theorem jI_cl {a : Int} (h : jR a) : (jI a).toNatClampNeg = a.toNat := by
  show (jI a).toInt.toNat = _
  rw [jI_toInt h]
theorem jI_in {a : Int} {n : Nat} (h : 0 ≤ a ∧ a < (n : Int)) (h2 : jR a) : vp_in (jI a) n := vp_in_iff.mpr (by rw [jI_toInt h2]; exact h)
theorem jAnd_R (a b : Int) : jR (jAnd a b) := jR_of _
theorem jOr_R (a b : Int) : jR (jOr a b) := jR_of _
theorem jXor_R (a b : Int) : jR (jXor a b) := jR_of _
theorem jShl_R (a b : Int) : jR (jShl a b) := jR_of _
theorem jShr_R (a b : Int) : jR (jShr a b) := jR_of _
theorem jDiv_R (a b : Int) : jR (jDiv a b) := jR_of _
theorem jRem_R (a b : Int) : jR (jRem a b) := jR_of _
theorem jMax_R {a b : Int} (ha : jR a) (hb : jR b) : jR (jMax a b) := by unfold jMax; split <;> assumption
theorem jMin_R {a b : Int} (ha : jR a) (hb : jR b) : jR (jMin a b) := by unfold jMin; split <;> assumption
theorem jAbs_R {a : Int} (ha : jR a) : jR (jAbs a) := by unfold jAbs; split; exact ha; exact jW_R _
theorem jChr_R (a : Int) : jR (jChr a) := by unfold jChr; constructor <;> omega
theorem jI_max {a b : Int} (ha : jR a) (hb : jR b) : (if jI a < jI b then jI b else jI a) = jI (jMax a b) := by
  unfold jMax
  by_cases h : a < b
  · rw [if_pos h, if_pos ((jI_lt ha hb).mpr h)]
  · rw [if_neg h, if_neg (fun q => h ((jI_lt ha hb).mp q))]
theorem jI_min {a b : Int} (ha : jR a) (hb : jR b) : (if jI b < jI a then jI b else jI a) = jI (jMin a b) := by
  unfold jMin
  by_cases h : b < a
  · rw [if_pos h, if_pos ((jI_lt hb ha).mpr h)]
  · rw [if_neg h, if_neg (fun q => h ((jI_lt hb ha).mp q))]
theorem jI_abs {a : Int} (ha : jR a) : (if 0 ≤ jI a then jI a else 0 - jI a) = jI (jAbs a) := by
  unfold jAbs
  rw [show (0 : Int32) = jI 0 from rfl]
  by_cases h : 0 ≤ a
  · rw [if_pos h, if_pos ((jI_le (by decide : jR 0) ha).mpr h)]
  · rw [if_neg h, if_neg (fun q => h ((jI_le (by decide : jR 0) ha).mp q)), jI_sub]
theorem jI_chr (a : Int) : ((jI a).toUInt32 % 65536).toInt32 = jI (jChr a) := by
  rw [pk_char]
  apply Int32.toInt_inj.mp
  have h1 : jR (((jI a).toBitVec.toNat % 65536 : Nat) : Int) := ⟨by omega, by omega⟩
  show (jI (((jI a).toBitVec.toNat % 65536 : Nat) : Int)).toInt = _
  rw [jI_toInt h1, jI_toInt (jChr_R a)]
  unfold jChr jI
  have h2 : (Int32.ofInt a).toBitVec = BitVec.ofInt 32 a := rfl
  rw [h2, BitVec.toNat_ofInt]
  omega
theorem jU_ok {M : jM} {c i v : Int} (h : jOK M) (hv : jV c i v) : jOK (jU M c i v) := by
  intro c' i'
  unfold jU
  split
  · next q => rw [q.1, q.2]; exact hv
  · exact h c' i'
/-- a word of an int-like place: a plain int field, an int array -/
theorem jV_i {c i v : Int} (hv : jR v) (hz : ¬ jZ c i) (h3 : jK c < 30000) : jV c i v := ⟨hv, fun h => absurd h hz, fun h => by omega, fun h => by omega, fun h => by omega⟩
theorem jV_z {c i v : Int} (hv : v = 0 ∨ v = 1) (h3 : jK c < 30000) : jV c i v := ⟨by rcases hv with rfl | rfl <;> decide, fun _ => hv, fun h => by omega, fun h => by omega, fun h => by omega⟩
theorem jV_c {c i v : Int} (hv : 0 ≤ v ∧ v < 65536) (h3 : jK c / 10000 = 3) : jV c i v := ⟨⟨by omega, by omega⟩, fun h => by unfold jZ at h; omega, fun _ => hv, fun h => by omega, fun h => by omega⟩
theorem jV_r {c i v : Int} (hr : jR v) (hv : jK v = 2) (h3 : jK c / 10000 = 4) : jV c i v := ⟨hr, fun h => by unfold jZ at h; omega, fun h => by omega, fun _ => hv, fun h => by omega⟩
theorem jV_s {c i v : Int} (hr : jR v) (hv : jK v = 5) (h3 : jK c / 10000 = 5) : jV c i v := ⟨hr, fun h => by unfold jZ at h; omega, fun h => by omega, fun h => by omega, fun _ => hv⟩
/-- a fact of all cells, by looking at each -/
theorem jK_in {c : Int} (h : jK c ≠ 0) : ∃ n : Nat, n < 252 ∧ c = (n : Int) := by
  have h1 : 0 ≤ c ∧ c < 252 := by unfold jK at h; omega
  exact ⟨c.toNat, by omega, by omega⟩
theorem jK_R {c : Int} (h : jK c ≠ 0) : jR c := by
  obtain ⟨n, h1, h2⟩ := jK_in h
  omega
theorem jK_nn {c : Int} (h : jK c ≠ 0) : ¬ c < 0 := by
  obtain ⟨n, h1, h2⟩ := jK_in h
  omega
theorem jK_all {P : Int → Bool} (h : (List.range 252).all (fun n => P (n : Int)) = true) {c : Int} (hc : jK c ≠ 0) : P c = true := by
  obtain ⟨n, h1, h2⟩ := jK_in hc
  rw [h2]
  exact List.all_eq_true.mp h n (List.mem_range.mpr h1)
