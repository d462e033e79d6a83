/-! HOW MANY HAVE GONE DOWN -/
def st2 (A : SA) (n : Nat) : Nat := cnt (fun l => decide (A 12 l = 2)) n
theorem st2_congr {A B : SA} {n : Nat} (h : ∀ l, l < n → (B 12 l = 2 ↔ A 12 l = 2)) : st2 B n = st2 A n := cnt_congr (fun l hl => decide_eq_decide.mpr (h l hl))
theorem st2_water {t : Int32} {A : SA} {n : Nat} : ∀ m, m ≤ n → st2 (wtF t A m).1 n = st2 A n + (wtF t A m).2 := by
  intro m
  induction m with
  | zero => exact fun _ => rfl
  | succ m ih =>
    intro hm
    have h0 := ih (by omega)
    by_cases q : (wtF t A m).1 12 m = 1
    · have c := cnt_one (f := fun l => decide ((wtF t A m).1 12 l = 2)) (g := fun l => decide ((wtF t A (m + 1)).1 12 l = 2)) (n := n) (l := m) (fun j _ hj => by rw [wtF_t q, washF_ne (by omega) (by omega) hj]) (by omega)
      have cA : cnt (fun l => decide ((wtF t A m).1 12 l = 2)) n = st2 (wtF t A m).1 n := rfl
      have cB : cnt (fun l => decide ((wtF t A (m + 1)).1 12 l = 2)) n = st2 (wtF t A (m + 1)).1 n := rfl
      rw [cA, cB, if_neg (c := decide ((wtF t A m).1 12 m = 2) = true) (by rw [decide_eq_true_eq, q]; decide)] at c
      rw [wtF_t q] at c ⊢
      rcases washF_flag (t := t) (c := (wtF t A m).2) q with ⟨e1, e2, _⟩ | ⟨e1, e2, _⟩
      · rw [if_neg (by rw [decide_eq_true_eq]; exact e2)] at c
        omega
      · rw [if_pos (by rw [decide_eq_true_eq]; exact e2)] at c
        omega
    · rw [wtF_f q]; exact h0
theorem st2_ans {A : SA} {N : Nat → Nat} {l : Nat} : st2 (anF A N l).1 ((anF A N l).2 3) = st2 A (N 3) := by
  unfold anF
  dsimp only
  split
  · exact st2_congr (fun j _ => by dsimp only; rw [up_ne (by omega)])
  · split
    · exact st2_congr (fun j _ => by dsimp only; rw [up_ne (by omega)])
    · split
      · exact st2_congr (fun j _ => by dsimp only; rw [up_ne (by omega)])
      · dsimp only
        unfold st2
        rw [nx_3, cnt_s0 (decide_eq_false (by rw [up_ne (by omega), (@adA_at _ (N 3) (A 9 l) (A 10 l) (A 11 l) 4 (A 6 (A 9 l).toNatClampNeg) (nI l)).2.2.2.1]; decide))]
        refine cnt_congr (fun j hj => ?_)
        rw [up_ne (by omega), adA_ne (by omega), up_ne (by omega)]
theorem st2_gx {f : Nat → Bool} {A : SA} {N : Nat → Nat} : ∀ m, st2 (gxF f A N m).1 ((gxF f A N m).2 3) = st2 A (N 3) := by
  intro m
  induction m with
  | zero => rfl
  | succ m ih =>
    by_cases q : f m = true
    · rw [gx_t q, st2_ans]; exact ih
    · rw [gx_f q]; exact ih
theorem st2_nr {t : Int32} {A : SA} {n : Nat} : ∀ m, st2 (nrF t A m) n = st2 A n := by
  intro m
  induction m with
  | zero => rfl
  | succ m ih =>
    by_cases q : nrF t A m 12 m = 4
    · rw [nr_t q, ← ih]
      refine st2_congr (fun j _ => ?_)
      unfold nrS
      by_cases e : j = m
      · rw [e, q]
        split
        · rw [up_eq]; decide
        · rw [up_ne (by omega), q]
      · split
        · rw [up_ne (by omega), up_ne (by omega)]
        · rw [up_ne (by omega)]
    · rw [nr_f q]; exact ih
theorem st2_sc {t : Int32} {A : SA} {n n2 : Nat} : ∀ i, st2 (scF t n2 A i) n = st2 A n := by
  intro i
  induction i with
  | zero => rfl
  | succ i ih =>
    rw [← ih]
    refine st2_congr (fun j _ => ?_)
    rw [scF]
    unfold scS
    cases hb : bst (okS t (scF t n2 A i)) (btS (scF t n2 A i)) n2 with
    | none => exact Iff.rfl
    | some l => dsimp only; rw [up_ne (by omega), up_ne (by omega)]
theorem st2_so {A : SA} {N : Nat → Nat} {n : Nat} : ∀ i, st2 (soF N A i) n = st2 A n := by
  intro i
  induction i with
  | zero => rfl
  | succ i ih =>
    rw [← ih]
    refine st2_congr (fun j _ => ?_)
    rw [soF]
    unfold soS
    cases hb : bst (okH (soF N A i)) (btH (soF N A i)) (N 3) with
    | none => exact Iff.rfl
    | some l =>
      have s0 : soF N A i 12 l = 0 := of_decide_eq_true (bst_lt hb).2
      dsimp only
      cases hc : bst (okN (soF N A i)) (btN (soF N A i) (soF N A i 4 (soF N A i 9 l).toNatClampNeg)) (N 1) with
      | none => exact Iff.rfl
      | some b =>
        dsimp only
        rw [up_ne (by omega), up_ne (by omega)]
        by_cases e : j = l
        · rw [e, up_eq, s0]; decide
        · rw [up_ne (by omega)]
theorem st2_hour {A : SA} {N : Nat → Nat} : st2 (hrD A N) (hrN A N 3) = st2 A (N 3) + (hrW A N).2 := by
  show st2 (soF (hrG A N).2 (hrC A N) ((hrG A N).2 6)) ((hrG A N).2 3) = _
  rw [st2_so]
  show st2 (scF (hrT A N) ((hrG A N).2 3) (clF (hrB A N) ((hrG A N).2 3)) ((hrG A N).2 5)) ((hrG A N).2 3) = _
  rw [st2_sc, st2_congr (A := hrB A N) (fun l _ => by rw [clF_ne (by omega)])]
  show st2 (nrF (hrT A N) (hrG A N).1 (N 3)) ((hrG A N).2 3) = _
  rw [st2_nr]
  show st2 (gxF (flg (hrT A N) A) (hrW A N).1 N (N 3)).1 ((gxF (flg (hrT A N) A) (hrW A N).1 N (N 3)).2 3) = _
  rw [st2_gx]
  exact st2_water (N 3) (Nat.le_refl _)
theorem st2_hours {A : SA} {N : Nat → Nat} : ∀ k, st2 (hsF A N k).1 ((hsF A N k).2 3) = st2 A (N 3) + dnF A N k := by
  intro k
  induction k with
  | zero => rfl
  | succ k ih =>
    show st2 (hrD (hsF A N k).1 (hsF A N k).2) (hrN (hsF A N k).1 (hsF A N k).2 3) = st2 A (N 3) + (dnF A N k + (hrW (hsF A N k).1 (hsF A N k).2).2)
    rw [st2_hour, ih]; omega
