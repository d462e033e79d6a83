/-! what the reference's reading methods answer -/
theorem nI_9 (l k : Nat) : ((9 : Int32) * nI l) + nI k = nI (9 * l + k) := by
  rw [show (9 : Int32) = nI 9 from rfl, pk_mul, nI_add]
theorem nI_5 (o k : Nat) : ((5 : Int32) * nI o) + nI k = nI (5 * o + k) := by
  rw [show (5 : Int32) = nI 5 from rfl, pk_mul, nI_add]
theorem nI_2 (b k : Nat) : ((2 : Int32) * nI b) + nI k = nI (2 * b + k) := by
  rw [show (2 : Int32) = nI 2 from rfl, pk_mul, nI_add]
theorem nI_20 (b : Nat) : ((2 : Int32) * nI b) = nI (2 * b) := by
  rw [show (2 : Int32) = nI 2 from rfl, pk_mul]
def inI (x lo hi : Int32) : Int32 := if x < lo then 0 else if hi < x then 0 else 1
theorem inI_01 (x lo hi : Int32) : inI x lo hi = 0 ∨ inI x lo hi = 1 := by
  unfold inI
  split
  · exact Or.inl rfl
  · split
    · exact Or.inl rfl
    · exact Or.inr rfl
theorem inI_has (x : Int32) {n : Nat} (hn : n < 2 ^ 30) : inI x 0 (nI n - 1) = hasI (nI n) x := by
  have h1 : (nI n - nI 1).toInt = (n : Int) - (1 : Nat) := pk_sub_toInt (by omega) (by omega)
  have h2 : (nI n).toInt = (n : Int) := nI_toInt (by omega)
  have h3 : (nI n - 1 < x) ↔ (nI n ≤ x) := by
    rw [Int32.lt_iff_toInt_lt, Int32.le_iff_toInt_le]
    show (nI n - nI 1).toInt < x.toInt ↔ _
    rw [h1, h2]
    omega
  unfold inI hasI
  by_cases h0 : x < 0
  · rw [if_pos h0, if_pos h0]
  · rw [if_neg h0, if_neg h0]
    by_cases h4 : nI n ≤ x
    · rw [if_pos (h3.mpr h4), if_pos h4]
    · rw [if_neg (fun q => h4 (h3.mp q)), if_neg h4]
theorem cnt_s0 {f : Nat → Bool} {j : Nat} (h : f j = false) : cnt f (j + 1) = cnt f j := by
  rw [cnt, h]; rfl
theorem cnt_s1 {f : Nat → Bool} {j : Nat} (h : f j = true) : cnt f (j + 1) = cnt f j + 1 := by
  rw [cnt, h]; rfl
abbrev inB (A : SA) (x : Int32) : Nat → Bool := fun l => decide (A 3 (9 * l + 3) = 1 ∧ A 3 (9 * l + 5) = x)
abbrev okB (A : SA) (n : Nat) : Nat → Bool := fun b => decide (¬ nI (cnt (inB A (nI b)) n) = A 1 (2 * b + 1))
abbrev btB (A : SA) (w : Int32) : Nat → Nat → Bool := fun b k => nearI (A 1 (2 * b)) (A 1 (2 * k)) w
