/-! WHAT AN HOUR DOES, letter by letter -/
theorem washF_fr {t : Int32} {A : SA} {c l q j : Nat} (h : q ≠ 3 ∧ q ≠ 12 ∧ q ≠ 13 ∧ q ≠ 14 ∧ q ≠ 15 ∧ q ≠ 18) : (washF t A c l).1 q j = A q j := by
  obtain ⟨h1, h2, h3, h4, h5, h6⟩ := h
  refine washF_cases (fun r => r.1 q j = A q j) ?_ (fun x => ?_) (fun x => ?_) (fun x => ?_)
  · simp [up_at, h5]
  · simp [up_at, h3, h5]
  · simp [lvA, up_at, h1, h2, h3, h4, h5, h6]
  · simp [lvA, up_at, h1, h2, h3, h4, h5]
/-- the hours held, if it is under water -/
def wsH (t : Int32) (A : SA) (l : Nat) : Int32 := if t < A 4 (A 9 l).toNatClampNeg then 0 else A 15 l + 1
/-- what the water does to the letter l, in a bin: R its row behind -/
def WA (t : Int32) (A : SA) (R : SA) (l : Nat) : Prop :=
  (t ≤ A 1 (A 14 l).toNatClampNeg ∧ R 12 l = 1 ∧ R 13 l = A 13 l ∧ R 14 l = A 14 l ∧ R 15 l = 0) ∨
  (¬ t ≤ A 1 (A 14 l).toNatClampNeg ∧ R 13 l = A 13 l + (1 + A 10 l / 3) ∧
    ((¬ R 13 l < A 11 l ∧ R 12 l = 3) ∨ (R 13 l < A 11 l ∧ ¬ wsH t A l < 3 ∧ R 12 l = 2) ∨ (R 13 l < A 11 l ∧ wsH t A l < 3 ∧ R 12 l = 1 ∧ R 14 l = A 14 l ∧ R 15 l = wsH t A l)))
theorem wash_at {t : Int32} {A : SA} {c l : Nat} (hs : A 12 l = 1) : WA t A (washF t A c l).1 l := by
  unfold WA washF
  by_cases q : t ≤ A 1 (A 14 l).toNatClampNeg
  · rw [if_pos q]
    refine Or.inl ⟨q, ?_, ?_, ?_, ?_⟩
    · dsimp only; rw [up_ne (by omega)]; exact hs
    · dsimp only; rw [up_ne (by omega)]
    · dsimp only; rw [up_ne (by omega)]
    · dsimp only; exact up_eq
  · rw [if_neg q]
    refine Or.inr ⟨q, ?_⟩
    dsimp only
    rw [show (if t < A 4 (A 9 l).toNatClampNeg then (0 : Int32) else A 15 l + 1) = wsH t A l from rfl]
    generalize wsH t A l = x
    have b13 : up (up A 13 l (A 13 l + (1 + A 10 l / 3))) 15 l x 13 l = A 13 l + (1 + A 10 l / 3) := by rw [up_ne (by omega), up_eq]
    have b11 : up (up A 13 l (A 13 l + (1 + A 10 l / 3))) 15 l x 11 l = A 11 l := by rw [up_ne (by omega), up_ne (by omega)]
    rw [b13, b11]
    by_cases q2 : A 13 l + (1 + A 10 l / 3) < A 11 l
    · rw [if_pos q2]
      by_cases q3 : x < 3
      · rw [if_pos q3]
        dsimp only
        rw [b13]
        refine ⟨rfl, Or.inr (Or.inr ⟨q2, q3, ?_, ?_, up_eq⟩)⟩
        · rw [up_ne (by omega), up_ne (by omega)]; exact hs
        · rw [up_ne (by omega), up_ne (by omega)]
      · rw [if_neg q3]
        dsimp only
        have c13 : up (lvA (up (up A 13 l (A 13 l + (1 + A 10 l / 3))) 15 l x) l (A 14 l).toNatClampNeg 2) 18 c (nI l) 13 l = A 13 l + (1 + A 10 l / 3) := by
          unfold lvA
          rw [up_ne (by omega), up_ne (by omega), up_ne (by omega), up_ne (by omega), up_ne (by omega)]; exact b13
        rw [c13]
        refine ⟨rfl, Or.inr (Or.inl ⟨q2, q3, ?_⟩)⟩
        rw [up_ne (by omega)]
        exact up_eq
    · rw [if_neg q2]
      dsimp only
      have c13 : lvA (up (up A 13 l (A 13 l + (1 + A 10 l / 3))) 15 l x) l (A 14 l).toNatClampNeg 3 13 l = A 13 l + (1 + A 10 l / 3) := by
        unfold lvA
        rw [up_ne (by omega), up_ne (by omega), up_ne (by omega), up_ne (by omega)]; exact b13
      rw [c13]
      exact ⟨rfl, Or.inl ⟨q2, up_eq⟩⟩
theorem wtF_fr {t : Int32} {A : SA} {q j : Nat} (h : q ≠ 3 ∧ q ≠ 12 ∧ q ≠ 13 ∧ q ≠ 14 ∧ q ≠ 15 ∧ q ≠ 18) : ∀ m, (wtF t A m).1 q j = A q j := by
  intro m
  induction m with
  | zero => rfl
  | succ m ih =>
    by_cases q1 : (wtF t A m).1 12 m = 1
    · rw [wtF_t q1, washF_fr h]; exact ih
    · rw [wtF_f q1]; exact ih
theorem WA.congr {t : Int32} {A X R S : SA} {l : Nat} (h : WA t X R l) (hx : ∀ q, q < 18 → q ≠ 3 → X q l = A q l) (h1 : ∀ j, X 1 j = A 1 j) (h4 : ∀ j, X 4 j = A 4 j) (hr : ∀ q, q < 18 → q ≠ 3 → S q l = R q l) : WA t A S l := by
  have e : wsH t X l = wsH t A l := by
    unfold wsH
    rw [hx 9 (by omega) (by omega), hx 15 (by omega) (by omega), h4]
  unfold WA at h ⊢
  rw [e, h1, hx 14 (by omega) (by omega), hx 13 (by omega) (by omega), hx 10 (by omega) (by omega), hx 11 (by omega) (by omega)] at h
  rw [hr 12 (by omega) (by omega), hr 13 (by omega) (by omega), hr 14 (by omega) (by omega), hr 15 (by omega) (by omega)]
  exact h
/-- the water, at the letter k -/
theorem wt_at {t : Int32} {A : SA} {k n : Nat} (hk : k < n) : (¬ A 12 k = 1 ∧ ∀ q, q < 18 → q ≠ 3 → (wtF t A n).1 q k = A q k) ∨ (A 12 k = 1 ∧ WA t A (wtF t A n).1 k ∧ ∀ q, q < 12 → q ≠ 3 → (wtF t A n).1 q k = A q k) := by
  induction n with
  | zero => exact absurd hk (by omega)
  | succ n ih =>
    by_cases e : k = n
    · subst e
      have hne : ∀ q, q < 18 → q ≠ 3 → (wtF t A k).1 q k = A q k := fun q h1 h2 => wtF_ne h1 h2 k (Nat.le_refl _)
      by_cases q1 : A 12 k = 1
      · have q2 : (wtF t A k).1 12 k = 1 := by rw [hne 12 (by omega) (by omega)]; exact q1
        rw [wtF_t q2]
        refine Or.inr ⟨q1, (wash_at q2).congr hne (fun j => wtF_fr (by omega) k) (fun j => wtF_fr (by omega) k) (fun _ _ _ => rfl), fun q h1 h2 => ?_⟩
        rw [washF_fr (by omega)]
        exact hne q (by omega) h2
      · have q2 : ¬ (wtF t A k).1 12 k = 1 := by rw [hne 12 (by omega) (by omega)]; exact q1
        rw [wtF_f q2]
        exact Or.inl ⟨q1, hne⟩
    · have same : ∀ q, q < 18 → q ≠ 3 → (wtF t A (n + 1)).1 q k = (wtF t A n).1 q k := fun q h1 h2 => by
        by_cases q1 : (wtF t A n).1 12 n = 1
        · rw [wtF_t q1, washF_ne h1 h2 e]
        · rw [wtF_f q1]
      rcases ih (by omega) with ⟨h1, h2⟩ | ⟨h1, h2, h3⟩
      · exact Or.inl ⟨h1, fun q a b => by rw [same q a b]; exact h2 q a b⟩
      · exact Or.inr ⟨h1, h2.congr (fun _ _ _ => rfl) (fun _ => rfl) (fun _ => rfl) same, fun q a b => by rw [same q (by omega) b]; exact h3 q a b⟩
/-! the answers -/
theorem anF_old {A : SA} {N : Nat → Nat} {l q k : Nat} (hk : k < N 3) (hq : 9 ≤ q) : (anF A N l).1 q k = A q k := by
  unfold anF
  dsimp only
  split
  · exact up_ne (by omega)
  · split
    · exact up_ne (by omega)
    · split
      · exact up_ne (by omega)
      · dsimp only
        rw [up_ne (by omega), adA_ne (by omega), up_ne (by omega)]
theorem anF_fr {A : SA} {N : Nat → Nat} {l q j : Nat} (hq : q < 7) : (anF A N l).1 q j = A q j := by
  unfold anF
  dsimp only
  split
  · exact up_ne (by omega)
  · split
    · exact up_ne (by omega)
    · split
      · exact up_ne (by omega)
      · dsimp only
        rw [up_ne (by omega), adA_ne (by omega), up_ne (by omega)]
theorem anF_new {A : SA} {N : Nat → Nat} {l : Nat} : (anF A N l).2 3 = N 3 ∨ ((anF A N l).2 3 = N 3 + 1 ∧ (anF A N l).1 12 (N 3) = 4 ∧ (anF A N l).1 17 (N 3) = nI l ∧ (anF A N l).1 9 (N 3) = A 9 l ∧ (anF A N l).1 16 (N 3) = A 6 (A 9 l).toNatClampNeg) := by
  unfold anF
  dsimp only
  split
  · exact Or.inl rfl
  · split
    · exact Or.inl rfl
    · split
      · exact Or.inl rfl
      · dsimp only
        obtain ⟨c1, c2, c3, c4, c5, c6, c7, c8, c9⟩ := @adA_at (up A 7 (A 9 l).toNatClampNeg (A 7 (A 9 l).toNatClampNeg + 1)) (N 3) (A 9 l) (A 10 l) (A 11 l) 4 (A 6 (A 9 l).toNatClampNeg) (nI l)
        refine Or.inr ⟨rfl, ?_, ?_, ?_, ?_⟩
        · rw [up_ne (by omega)]; exact c4
        · rw [up_ne (by omega)]; exact c9
        · rw [up_ne (by omega)]; exact c1
        · rw [up_ne (by omega)]; exact c8
theorem gx_old {f : Nat → Bool} {A : SA} {N : Nat → Nat} {q k : Nat} (hk : k < N 3) (hq : 9 ≤ q) : ∀ m, (gxF f A N m).1 q k = A q k := by
  intro m
  induction m with
  | zero => rfl
  | succ m ih =>
    by_cases h : f m = true
    · rw [gx_t h, anF_old (Nat.lt_of_lt_of_le hk (gx_ge m)) hq]; exact ih
    · rw [gx_f h]; exact ih
theorem gx_fr {f : Nat → Bool} {A : SA} {N : Nat → Nat} {q j : Nat} (hq : q < 7) : ∀ m, (gxF f A N m).1 q j = A q j := by
  intro m
  induction m with
  | zero => rfl
  | succ m ih =>
    by_cases h : f m = true
    · rw [gx_t h, anF_fr hq]; exact ih
    · rw [gx_f h]; exact ih
theorem gx_new {f : Nat → Bool} {A : SA} {N : Nat → Nat} : ∀ m, m ≤ N 3 → ∀ k, N 3 ≤ k → k < (gxF f A N m).2 3 → (gxF f A N m).1 12 k = 4 ∧ ∃ l, l < m ∧ f l = true ∧ (gxF f A N m).1 17 k = nI l ∧ (gxF f A N m).1 9 k = A 9 l ∧ (gxF f A N m).1 16 k = A 6 (A 9 l).toNatClampNeg := by
  intro m
  induction m with
  | zero => intro _ k h1 h2; exact absurd h2 (by rw [show (gxF f A N 0).2 = N from rfl]; omega)
  | succ m ih =>
    intro hm k h1 h2
    by_cases h : f m = true
    · rw [gx_t h] at h2 ⊢
      rcases Nat.lt_or_ge k ((gxF f A N m).2 3) with h3 | h3
      · obtain ⟨a1, l, a2, a3, a4, a5, a6⟩ := ih (by omega) k h1 h3
        rw [anF_old h3 (by omega), anF_old h3 (by omega), anF_old h3 (by omega), anF_old h3 (by omega)]
        exact ⟨a1, l, by omega, a3, a4, a5, a6⟩
      · rcases @anF_new (gxF f A N m).1 (gxF f A N m).2 m with e | ⟨e, b1, b2, b3, b4⟩
        · omega
        · have ek : k = (gxF f A N m).2 3 := by omega
          subst ek
          have o9 : (gxF f A N m).1 9 m = A 9 m := gx_old (by omega) (by omega) m
          rw [o9] at b3 b4
          rw [gx_fr (by omega)] at b4
          exact ⟨b1, m, by omega, h, b2, b3, b4⟩
    · rw [gx_f h] at h2 ⊢
      obtain ⟨a1, l, a2, a3⟩ := ih (by omega) k h1 h2
      exact ⟨a1, l, by omega, a3⟩
/-! nearer, scraped, sorted -/
theorem nrS_fr {t : Int32} {A : SA} {m q j : Nat} (h : (q ≠ 12 ∧ q ≠ 16) ∨ j ≠ m) : nrS t A m q j = A q j := by
  unfold nrS
  split
  · rw [up_ne (by omega), up_ne (by omega)]
  · rw [up_ne (by omega)]
theorem nr_fr {t : Int32} {A : SA} {q j : Nat} : ∀ m, ((q ≠ 12 ∧ q ≠ 16) ∨ m ≤ j) → nrF t A m q j = A q j := by
  intro m
  induction m with
  | zero => exact fun _ => rfl
  | succ m ih =>
    intro h
    by_cases c : nrF t A m 12 m = 4
    · rw [nr_t c, nrS_fr (by omega)]; exact ih (by omega)
    · rw [nr_f c]; exact ih (by omega)
theorem nr_at {t : Int32} {A : SA} {k : Nat} : ∀ m, nrF t A m 12 k = A 12 k ∨ (A 12 k = 4 ∧ nrF t A m 12 k = 5 ∧ ¬ (30 : Int32) < t) := by
  intro m
  induction m with
  | zero => exact Or.inl rfl
  | succ m ih =>
    by_cases c : nrF t A m 12 m = 4
    · rw [nr_t c]
      by_cases e : k = m
      · subst e
        have a4 : A 12 k = 4 := (nr_fr (t := t) (A := A) (q := 12) k (Or.inr (Nat.le_refl _))).symm.trans c
        unfold nrS
        split
        · rename_i h; exact Or.inr ⟨a4, up_eq, h.2⟩
        · rw [up_ne (by omega)]; exact ih
      · rw [nrS_fr (Or.inr e)]; exact ih
    · rw [nr_f c]; exact ih
theorem sc_fr {t : Int32} {n : Nat} {A : SA} {q j : Nat} (h : q ≠ 13 ∧ q ≠ 19) : ∀ i, scF t n A i q j = A q j := by
  intro i
  induction i with
  | zero => rfl
  | succ i ih =>
    rw [scF]
    unfold scS
    cases bst (okS t (scF t n A i)) (btS (scF t n A i)) n with
    | none => exact ih
    | some l => dsimp only; rw [up_ne (by omega), up_ne (by omega)]; exact ih
theorem sc_at {t : Int32} {n : Nat} {A : SA} {k : Nat} : ∀ i, scF t n A i 13 k = A 13 k ∨ (¬ scF t n A i 19 k = 0 ∧ scF t n A i 13 k = hv2 (A 13 k) ∧ A 12 k = 1 ∧ t ≤ A 1 (A 14 k).toNatClampNeg) := by
  intro i
  induction i with
  | zero => exact Or.inl rfl
  | succ i ih =>
    rw [scF]
    unfold scS
    cases hb : bst (okS t (scF t n A i)) (btS (scF t n A i)) n with
    | none => exact ih
    | some l =>
      dsimp only
      have ho : ¬ scF t n A i 13 l = 0 ∧ scF t n A i 12 l = 1 ∧ scF t n A i 19 l = 0 ∧ t ≤ scF t n A i 1 (scF t n A i 14 l).toNatClampNeg := of_decide_eq_true (bst_lt hb).2
      by_cases e : k = l
      · subst e
        rcases ih with h | ⟨h, _⟩
        · refine Or.inr ⟨?_, ?_, ?_, ?_⟩
          · rw [up_eq]; decide
          · rw [up_ne (by omega), up_eq, h]
          · exact (sc_fr (t := t) (n := n) (A := A) (q := 12) (j := k) (by omega) i).symm.trans ho.2.1
          · have h2 := ho.2.2.2
            rw [sc_fr (by omega) i, sc_fr (by omega) i] at h2
            exact h2
        · exact absurd ho.2.2.1 h
      · rw [up_ne (by omega), up_ne (by omega), up_ne (by omega), up_ne (by omega)]
        exact ih
theorem so_fr {N : Nat → Nat} {A : SA} {q j : Nat} (h : q ≠ 3 ∧ q ≠ 12 ∧ q ≠ 14) : ∀ i, soF N A i q j = A q j := by
  intro i
  induction i with
  | zero => rfl
  | succ i ih =>
    rw [soF]
    unfold soS
    cases hb : bst (okH (soF N A i)) (btH (soF N A i)) (N 3) with
    | none => exact ih
    | some l =>
      dsimp only
      cases hc : bst (okN (soF N A i)) (btN (soF N A i) (soF N A i 4 (soF N A i 9 l).toNatClampNeg)) (N 1) with
      | none => exact ih
      | some b => dsimp only; rw [up_ne (by omega), up_ne (by omega), up_ne (by omega)]; exact ih
theorem so_at {N : Nat → Nat} {A : SA} {k : Nat} : ∀ i, soF N A i 12 k = A 12 k ∨ (A 12 k = 0 ∧ soF N A i 12 k = 1) := by
  intro i
  induction i with
  | zero => exact Or.inl rfl
  | succ i ih =>
    rw [soF]
    unfold soS
    cases hb : bst (okH (soF N A i)) (btH (soF N A i)) (N 3) with
    | none => exact ih
    | some l =>
      dsimp only
      cases hc : bst (okN (soF N A i)) (btN (soF N A i) (soF N A i 4 (soF N A i 9 l).toNatClampNeg)) (N 1) with
      | none => exact ih
      | some b =>
        dsimp only
        have ho : soF N A i 12 l = 0 := of_decide_eq_true (bst_lt hb).2
        by_cases e : k = l
        · subst e
          rw [up_ne (by omega), up_ne (by omega), up_eq]
          rcases ih with h | ⟨_, h⟩
          · exact Or.inr ⟨by rw [← h]; exact ho, rfl⟩
          · rw [h] at ho; exact absurd ho (by decide)
        · rw [up_ne (by omega), up_ne (by omega), up_ne (by omega)]
          exact ih
