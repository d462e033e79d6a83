/-! WHAT HOURS LEAVE ALONE: heights, bins' heights and room, all numbers but the letters' and the hour -/
theorem hs_rows {A : SA} {N : Nat → Nat} {q : Nat} (hq : q < 3) : ∀ k j, (hsF A N k).1 q j = A q j := by
  have wash : ∀ (t : Int32) (B : SA) (c l j : Nat), (washF t B c l).1 q j = B q j := by
    intro t B c l j
    refine washF_cases (fun r => r.1 q j = B q j) ?_ (fun x => ?_) (fun x => ?_) (fun x => ?_) <;> dsimp only [lvA] <;> (repeat rw [up_ne (by omega)])
  have wt : ∀ (t : Int32) (B : SA) (m j : Nat), (wtF t B m).1 q j = B q j := by
    intro t B m j
    induction m with
    | zero => rfl
    | succ m ih =>
      by_cases w : (wtF t B m).1 12 m = 1
      · rw [wtF_t w, wash]; exact ih
      · rw [wtF_f w]; exact ih
  have an : ∀ (B : SA) (M : Nat → Nat) (l j : Nat), (anF B M l).1 q j = B q j := by
    intro B M l j
    unfold anF
    dsimp only
    split
    · dsimp only; rw [up_ne (by omega)]
    · split
      · dsimp only; rw [up_ne (by omega)]
      · split
        · dsimp only; rw [up_ne (by omega)]
        · dsimp only; rw [up_ne (by omega), adA_ne (by omega), up_ne (by omega)]
  have gx : ∀ (f : Nat → Bool) (B : SA) (M : Nat → Nat) (m j : Nat), (gxF f B M m).1 q j = B q j := by
    intro f B M m j
    induction m with
    | zero => rfl
    | succ m ih =>
      by_cases w : f m = true
      · rw [gx_t w, an]; exact ih
      · rw [gx_f w]; exact ih
  have nr : ∀ (t : Int32) (B : SA) (m j : Nat), nrF t B m q j = B q j := by
    intro t B m j
    induction m with
    | zero => rfl
    | succ m ih =>
      by_cases w : nrF t B m 12 m = 4
      · rw [nr_t w, ← ih]
        unfold nrS
        split
        · rw [up_ne (by omega), up_ne (by omega)]
        · rw [up_ne (by omega)]
      · rw [nr_f w]; exact ih
  have sc : ∀ (t : Int32) (n : Nat) (B : SA) (i j : Nat), scF t n B i q j = B q j := by
    intro t n B i j
    induction i with
    | zero => rfl
    | succ i ih =>
      rw [← ih, scF]
      unfold scS
      cases hb : bst (okS t (scF t n B i)) (btS (scF t n B i)) n with
      | none => rfl
      | some l => dsimp only; rw [up_ne (by omega), up_ne (by omega)]
  have so : ∀ (M : Nat → Nat) (B : SA) (i j : Nat), soF M B i q j = B q j := by
    intro M B i j
    induction i with
    | zero => rfl
    | succ i ih =>
      rw [← ih, soF]
      unfold soS
      cases hb : bst (okH (soF M B i)) (btH (soF M B i)) (M 3) with
      | none => rfl
      | some l =>
        dsimp only
        cases hc : bst (okN (soF M B i)) (btN (soF M B i) (soF M B i 4 (soF M B i 9 l).toNatClampNeg)) (M 1) with
        | none => rfl
        | some b => dsimp only; rw [up_ne (by omega), up_ne (by omega), up_ne (by omega)]
  intro k j
  induction k with
  | zero => rfl
  | succ k ih =>
    rw [← ih]
    show hrD (hsF A N k).1 (hsF A N k).2 q j = _
    unfold hrD
    rw [so]
    unfold hrC
    rw [sc, clF_ne (by omega)]
    unfold hrB
    rw [nr]
    unfold hrG
    rw [gx]
    unfold hrW
    exact wt _ _ _ _
theorem hs_num {A : SA} {N : Nat → Nat} {q : Nat} (h3 : q ≠ 3) (h4 : q ≠ 4) : ∀ k, (hsF A N k).2 q = N q := by
  intro k
  induction k with
  | zero => rfl
  | succ k ih =>
    show hrN (hsF A N k).1 (hsF A N k).2 q = N q
    unfold hrN nh
    rw [if_neg h4]
    unfold hrG
    rw [gx_ne _ _ h3]
    exact ih
