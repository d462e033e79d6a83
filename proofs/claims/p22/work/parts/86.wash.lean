/-! THE WATER, over all letters -/
theorem washF_cases {t : Int32} {A : SA} {c l : Nat} (P : SA × Nat → Prop) (h1 : P (up A 15 l 0, c)) (h2 : ∀ x, P (up (up A 13 l (A 13 l + (1 + A 10 l / 3))) 15 l x, c))
    (h3 : ∀ x, P (up (lvA (up (up A 13 l (A 13 l + (1 + A 10 l / 3))) 15 l x) l (A 14 l).toNatClampNeg 2) 18 c (nI l), c + 1)) (h4 : ∀ x, P (lvA (up (up A 13 l (A 13 l + (1 + A 10 l / 3))) 15 l x) l (A 14 l).toNatClampNeg 3, c)) : P (washF t A c l) := by
  unfold washF
  by_cases q : t ≤ A 1 (A 14 l).toNatClampNeg
  · rw [if_pos q]; exact h1
  · rw [if_neg q]
    dsimp only
    generalize (if t < A 4 (A 9 l).toNatClampNeg then (0 : Int32) else A 15 l + 1) = x
    split
    · split
      · exact h2 _
      · exact h3 _
    · exact h4 _
theorem washF_ne {t : Int32} {A : SA} {c l k j : Nat} (hk : k < 18) (hk3 : k ≠ 3) (hj : j ≠ l) : (washF t A c l).1 k j = A k j := by
  have h18 : ¬ k = 18 := by omega
  refine washF_cases (fun r => r.1 k j = A k j) ?_ (fun x => ?_) (fun x => ?_) (fun x => ?_)
  · simp [up_at, hj]
  · simp [up_at, hj]
  · simp [lvA, up_at, hj, hk3, h18]
  · simp [lvA, up_at, hj, hk3]
theorem washF_flag {t : Int32} {A : SA} {c l : Nat} (hs : A 12 l = 1) : ((washF t A c l).2 = c ∧ ¬ (washF t A c l).1 12 l = 2 ∧ (∀ i, (washF t A c l).1 18 i = A 18 i)) ∨ ((washF t A c l).2 = c + 1 ∧ (washF t A c l).1 12 l = 2 ∧ (washF t A c l).1 18 c = nI l ∧ ∀ i, i ≠ c → (washF t A c l).1 18 i = A 18 i) := by
  refine washF_cases (fun r => (r.2 = c ∧ ¬ r.1 12 l = 2 ∧ (∀ i, r.1 18 i = A 18 i)) ∨ (r.2 = c + 1 ∧ r.1 12 l = 2 ∧ r.1 18 c = nI l ∧ ∀ i, i ≠ c → r.1 18 i = A 18 i)) ?_ (fun x => ?_) (fun x => ?_) (fun x => ?_)
  · refine Or.inl ⟨rfl, ?_, fun i => by simp [up_at]⟩
    dsimp only
    rw [up_ne (by omega), hs]; decide
  · refine Or.inl ⟨rfl, ?_, fun i => by simp [up_at]⟩
    dsimp only
    rw [up_ne (by omega), up_ne (by omega), hs]; decide
  · refine Or.inr ⟨rfl, ?_, by dsimp only; exact up_eq, fun i hi => by simp [lvA, up_at, hi]⟩
    dsimp only
    rw [up_ne (by omega)]
    exact up_eq
  · refine Or.inl ⟨rfl, ?_, fun i => by simp [lvA, up_at]⟩
    show ¬ lvA _ l _ 3 12 l = 2
    unfold lvA
    rw [up_eq]; decide
/-- the water, over the first m letters -/
def wtF (t : Int32) (A : SA) : Nat → SA × Nat
  | 0 => (A, 0)
  | m + 1 => if (wtF t A m).1 12 m = 1 then washF t (wtF t A m).1 (wtF t A m).2 m else wtF t A m
theorem wtF_t {t : Int32} {A : SA} {m : Nat} (h : (wtF t A m).1 12 m = 1) : wtF t A (m + 1) = washF t (wtF t A m).1 (wtF t A m).2 m := by
  rw [wtF, if_pos h]
theorem wtF_f {t : Int32} {A : SA} {m : Nat} (h : ¬ (wtF t A m).1 12 m = 1) : wtF t A (m + 1) = wtF t A m := by
  rw [wtF, if_neg h]
theorem wtF_IV {N : Nat → Nat} {A : SA} {V : SV} {t : Int32} (h : IV N A V) : ∀ m, m ≤ N 3 → IV N (wtF t A m).1 V := by
  intro m
  induction m with
  | zero => exact fun _ => h
  | succ m ih =>
    intro hm
    by_cases q : (wtF t A m).1 12 m = 1
    · rw [wtF_t q]; exact (ih (by omega)).wash (by omega) q
    · rw [wtF_f q]; exact ih (by omega)
theorem wtF_ne {t : Int32} {A : SA} {k j : Nat} (hk : k < 18) (hk3 : k ≠ 3) : ∀ m, m ≤ j → (wtF t A m).1 k j = A k j := by
  intro m
  induction m with
  | zero => exact fun _ => rfl
  | succ m ih =>
    intro hm
    by_cases q : (wtF t A m).1 12 m = 1
    · rw [wtF_t q, washF_ne hk hk3 (by omega)]; exact ih (by omega)
    · rw [wtF_f q]; exact ih (by omega)
/-- did m go down? -/
def flg (t : Int32) (A : SA) (m : Nat) : Bool := decide ((wtF t A (m + 1)).2 = (wtF t A m).2 + 1)
theorem flg_f {t : Int32} {A : SA} {m : Nat} (h : ¬ (wtF t A m).1 12 m = 1) : flg t A m = false := by
  unfold flg
  rw [wtF_f h]
  exact decide_eq_false (by omega)
theorem flg_2 {t : Int32} {A : SA} {m : Nat} (h : (wtF t A m).1 12 m = 1) : (flg t A m = true ↔ (wtF t A (m + 1)).1 12 m = 2) := by
  unfold flg
  rw [wtF_t h, decide_eq_true_eq]
  rcases washF_flag (t := t) (c := (wtF t A m).2) h with ⟨e1, e2, _⟩ | ⟨e1, e2, _⟩
  · rw [e1]
    exact ⟨fun q => absurd q (by omega), fun q => absurd q e2⟩
  · rw [e1]
    exact ⟨fun _ => e2, fun _ => rfl⟩
theorem wtF_c {t : Int32} {A : SA} {m : Nat} : (flg t A m = true ∧ (wtF t A (m + 1)).2 = (wtF t A m).2 + 1 ∧ (wtF t A (m + 1)).1 18 (wtF t A m).2 = nI m ∧ ∀ i, i ≠ (wtF t A m).2 → (wtF t A (m + 1)).1 18 i = (wtF t A m).1 18 i) ∨ (flg t A m = false ∧ (wtF t A (m + 1)).2 = (wtF t A m).2 ∧ ∀ i, (wtF t A (m + 1)).1 18 i = (wtF t A m).1 18 i) := by
  unfold flg
  by_cases q : (wtF t A m).1 12 m = 1
  · rw [wtF_t q]
    rcases washF_flag (t := t) (c := (wtF t A m).2) q with ⟨e1, _, e3⟩ | ⟨e1, _, e3, e4⟩
    · exact Or.inr ⟨decide_eq_false (by omega), e1, e3⟩
    · exact Or.inl ⟨decide_eq_true e1, e1, e3, e4⟩
  · rw [wtF_f q]
    exact Or.inr ⟨decide_eq_false (by omega), rfl, fun _ => rfl⟩
theorem wtF_le {t : Int32} {A : SA} : ∀ m, (wtF t A m).2 ≤ m := by
  intro m
  induction m with
  | zero => exact Nat.le_refl _
  | succ m ih => rcases wtF_c (t := t) (A := A) (m := m) with ⟨_, e, _⟩ | ⟨_, e, _⟩ <;> omega
theorem wtF_mono {t : Int32} {A : SA} (m : Nat) : ∀ d, (wtF t A m).2 ≤ (wtF t A (m + d)).2 := by
  intro d
  induction d with
  | zero => exact Nat.le_refl _
  | succ d ih =>
    have e0 : m + (d + 1) = (m + d) + 1 := rfl
    rw [e0]
    rcases wtF_c (t := t) (A := A) (m := m + d) with ⟨_, e, _⟩ | ⟨_, e, _⟩ <;> omega
/-- the list of those that went down -/
theorem wtF_sunk {t : Int32} {A : SA} {m : Nat} (hf : flg t A m = true) : ∀ d, (wtF t A (m + 1 + d)).1 18 (wtF t A m).2 = nI m := by
  intro d
  induction d with
  | zero =>
    rcases wtF_c (t := t) (A := A) (m := m) with ⟨_, _, e, _⟩ | ⟨e, _⟩
    · exact e
    · rw [hf] at e; cases e
  | succ d ih =>
    have e0 : m + 1 + (d + 1) = (m + 1 + d) + 1 := rfl
    rw [e0]
    rcases wtF_c (t := t) (A := A) (m := m + 1 + d) with ⟨_, _, _, e⟩ | ⟨_, _, e⟩
    · rw [e _ ?_]; exact ih
      have h1 := wtF_mono (t := t) (A := A) (m + 1) d
      rcases wtF_c (t := t) (A := A) (m := m) with ⟨_, e2, _⟩ | ⟨e2, _⟩
      · omega
      · rw [hf] at e2; cases e2
    · rw [e _]; exact ih
theorem sp_water {N : Nat → Nat} {A : SA} {V : SV} {t : Int32} {Q : SA → SV → Prop} (hI : IV N A V) (h : Q (wtF t A (N 3)).1 (uv V 7 (nI (wtF t A (N 3)).2))) : wpX3_water A V t Q := by
  have hn : N 3 ≤ 150 := hI.1.2.2.2.2.2.1
  intro V1 e1
  rw [show (0 : Int32) = nI (wtF t A 0).2 from rfl] at e1
  refine ⟨N 3 - 0 + 1, ?_⟩
  refine up_loop (P := fun f j => wl_X3_water_7 Q f (wtF t A j).1 (uv V 7 (nI (wtF t A j).2)) t (nI j)) (fun f => ?_) (fun f j hj ih => ?_) 0 (Nat.zero_le _) |> fun q => by rw [e1]; exact q
  · have hV : uv V 7 (nI (wtF t A (N 3)).2) 3 = nI (N 3) := hI.1.uv7.1 3 (by omega)
    refine ⟨fun _ => h, fun hc => absurd ?_ hc⟩
    rw [hV]; exact Int32.le_refl _
  · have hN : NI N (uv V 7 (nI (wtF t A j).2)) := hI.1.uv7
    refine ⟨fun hc => ?_, fun _ => ⟨vp_in_nI (by omega) (by omega), ?_⟩⟩
    · rw [hN.1 3 (by omega), nI_leI (by omega) (by omega)] at hc; omega
    · rw [nI_clamp (by omega), nI_1]
      refine ⟨fun hs => ?_, fun hs => ?_⟩
      · rw [wtF_f hs] at ih; exact ih
      · have hIj := wtF_IV (t := t) hI j (by omega)
        obtain ⟨⟨o, ho, a9⟩, _, _, _, _, hbin, _, _⟩ := hIj.2.2.2 j hj
        obtain ⟨b, hb, a14⟩ : ∃ b, b < N 1 ∧ (wtF t A j).1 14 j = nI b := by
          rcases hbin with ⟨_, q⟩ | ⟨q, _⟩
          · exact q
          · exact absurd hs q
        have hc := wtF_le (t := t) (A := A) j
        refine sp_wash (c := (wtF t A j).2) hN hj hb a14 ho a9 rfl (by omega) ?_
        rw [uv_7, ← wtF_t hs]
        exact ih
