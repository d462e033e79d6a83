/-! THE PURE PART: no heap from here on. Numbers of the state are nI of naturals; N: 0 tides, 1 bins, 2 drowned, 3 letters, 4 hour, 5 scrapers, 6 sorters; G: the arrays as the class has them (0 .. 17) -/
theorem up_at (A : SA) (k i k' j : Nat) (v : Int32) : up A k i v k' j = if k' = k ∧ j = i then v else A k' j := by
  unfold up upd
  by_cases h1 : k' = k
  · subst h1
    by_cases h2 : j = i <;> simp [h2]
  · simp [h1]
theorem uv_at (V : SV) (k k' : Nat) (v : Int32) : uv V k v k' = if k' = k then v else V k' := rfl
theorem ua_at (A : SA) (k k' j : Nat) (f : Nat → Int32) : ua A k f k' j = if k' = k then f j else A k' j := by
  unfold ua
  by_cases h : k' = k <;> simp [h]
theorem up_ne {A : SA} {k i k' j : Nat} {v : Int32} (h : k' ≠ k ∨ j ≠ i) : up A k i v k' j = A k' j := by
  rw [up_at, if_neg]
  rintro ⟨h1, h2⟩
  exact h.elim (fun q => q h1) (fun q => q h2)
theorem up_eq {A : SA} {k i : Nat} {v : Int32} : up A k i v k i = v := by rw [up_at, if_pos ⟨rfl, rfl⟩]
theorem nI_lt_iff {a b : Nat} (ha : a < 2 ^ 31) (hb : b < 2 ^ 31) : nI a < nI b ↔ a < b := nI_ltI ha hb
theorem nI_inj {a b : Nat} (ha : a < 2 ^ 31) (hb : b < 2 ^ 31) : nI a = nI b ↔ a = b := nI_eq ha hb
theorem nI_nn {a : Nat} (ha : a < 2 ^ 31) : ¬ nI a < 0 := nI_pos ha
theorem nI_m1 {a : Nat} (ha : a < 2 ^ 31) : ¬ nI a = (-1 : Int32) := by
  intro h
  have h1 : (nI a).toInt = (-1 : Int32).toInt := by rw [h]
  rw [nI_toInt ha] at h1
  have h2 : (-1 : Int32).toInt = -1 := by decide
  omega
def cnt (f : Nat → Bool) : Nat → Nat
  | 0 => 0
  | n + 1 => cnt f n + (if f n then 1 else 0)
theorem cnt_le (f : Nat → Bool) (n : Nat) : cnt f n ≤ n := by
  induction n with
  | zero => exact Nat.le_refl _
  | succ n ih =>
    unfold cnt
    split <;> omega
theorem cnt_congr {f g : Nat → Bool} {n : Nat} (h : ∀ j, j < n → f j = g j) : cnt f n = cnt g n := by
  induction n with
  | zero => rfl
  | succ n ih =>
    unfold cnt
    rw [ih (fun j hj => h j (by omega)), h n (by omega)]
def sumI (f : Nat → Int32) : Nat → Int32
  | 0 => 0
  | n + 1 => sumI f n + f n
theorem sumI_congr {f g : Nat → Int32} {n : Nat} (h : ∀ j, j < n → f j = g j) : sumI f n = sumI g n := by
  induction n with
  | zero => rfl
  | succ n ih =>
    unfold sumI
    rw [ih (fun j hj => h j (by omega)), h n (by omega)]
/-- the best of those that may be: the first one that no later one beats -/
def bst (ok : Nat → Bool) (bt : Nat → Nat → Bool) : Nat → Option Nat
  | 0 => none
  | n + 1 => if ok n then (match bst ok bt n with | none => some n | some k => if bt n k then some n else some k) else bst ok bt n
theorem bst_lt {ok : Nat → Bool} {bt : Nat → Nat → Bool} {n k : Nat} (h : bst ok bt n = some k) : k < n ∧ ok k = true := by
  induction n generalizing k with
  | zero => cases h
  | succ n ih =>
    unfold bst at h
    cases h1 : ok n with
    | false =>
      rw [h1, if_neg (by decide)] at h
      exact ⟨Nat.lt_succ_of_lt (ih h).1, (ih h).2⟩
    | true =>
      rw [h1, if_pos rfl] at h
      cases h2 : bst ok bt n with
      | none => rw [h2] at h; cases h; exact ⟨Nat.lt_succ_self _, h1⟩
      | some q =>
        rw [h2] at h
        dsimp only at h
        cases h3 : bt n q with
        | true => rw [h3, if_pos rfl] at h; cases h; exact ⟨Nat.lt_succ_self _, h1⟩
        | false => rw [h3, if_neg (by decide)] at h; cases h; exact ⟨Nat.lt_succ_of_lt (ih h2).1, (ih h2).2⟩
theorem bst_congr {ok ok' : Nat → Bool} {bt bt' : Nat → Nat → Bool} {n : Nat} (h1 : ∀ j, j < n → ok j = ok' j) (h2 : ∀ j k, j < n → k < j → ok j = true → ok k = true → bt j k = bt' j k) : bst ok bt n = bst ok' bt' n := by
  induction n with
  | zero => rfl
  | succ n ih =>
    have e := ih (fun j hj => h1 j (by omega)) (fun j k hj hk => h2 j k (by omega) hk)
    unfold bst
    rw [← e, ← h1 n (by omega)]
    cases h3 : ok n with
    | false => rfl
    | true =>
      cases h4 : bst ok bt n with
      | none => rfl
      | some k =>
        dsimp only
        rw [h2 n k (by omega) (bst_lt h4).1 h3 (bst_lt h4).2]
def oI : Option Nat → Int32
  | none => -1
  | some k => nI k
/-- the walk of a counted loop: j goes up to n, one of fuel a round and one at the end -/
theorem up_loop {P : Nat → Nat → Prop} {n : Nat} (h0 : ∀ f, P (f + 1) n) (hs : ∀ f j, j < n → P f (j + 1) → P (f + 1) j) : ∀ j, j ≤ n → P (n - j + 1) j := by
  intro j hj
  obtain ⟨d, hd⟩ : ∃ d, d = n - j := ⟨_, rfl⟩
  induction d generalizing j with
  | zero =>
    have : j = n := by omega
    subst this
    exact h0 _
  | succ d ih =>
    have h1 := hs (n - (j + 1) + 1) j (by omega) (ih (j + 1) (by omega) (by omega))
    have e : n - (j + 1) + 1 + 1 = n - j + 1 := by omega
    rw [e] at h1
    exact h1
def hasI (n x : Int32) : Int32 := if x < 0 then 0 else if n ≤ x then 0 else 1
theorem hasI_t {n j : Nat} (h : j < n) (hn : n < 2 ^ 31) : hasI (nI n) (nI j) = 1 := by
  unfold hasI
  rw [if_neg (nI_nn (by omega)), if_neg (by rw [nI_leI hn (by omega)]; omega)]
theorem hasI_m1 (n : Int32) : hasI n (-1) = 0 := by
  unfold hasI
  rw [if_pos (by decide)]
/-- an int is the number of one, or there is none -/
theorem has_or (x : Int32) {n : Nat} (hn : n < 2 ^ 31) : hasI (nI n) x = 0 ∨ ∃ j, j < n ∧ x = nI j := by
  rcases pk_ix x hn with h | h | h
  · exact Or.inl (by unfold hasI; rw [if_pos h])
  · refine Or.inl ?_
    unfold hasI
    by_cases h0 : x < 0
    · rw [if_pos h0]
    · rw [if_neg h0, if_pos h]
  · exact Or.inr h

