/-! THE INVARIANT, when one letter's facts change -/
theorem cnt_one {f g : Nat → Bool} {n l : Nat} (h : ∀ j, j < n → j ≠ l → f j = g j) (hl : l < n) : cnt f n + (if g l = true then 1 else 0) = cnt g n + (if f l = true then 1 else 0) := by
  induction n with
  | zero => omega
  | succ n ih =>
    unfold cnt
    by_cases e : l = n
    · have e2 : cnt f n = cnt g n := cnt_congr (fun j hj => h j (by omega) (by omega))
      rw [e2, e]
      omega
    · have := ih (fun j hj hn => h j (by omega) hn) (by omega)
      rw [h n (by omega) (by omega)]
      omega
theorem LI.congr {N : Nat → Nat} {A B : SA} {l : Nat} (h : LI N A l) (e : ∀ k, 9 ≤ k → k ≤ 16 → B k l = A k l) : LI N B l := by
  unfold LI at h ⊢
  rw [e 9 (by omega) (by omega), e 10 (by omega) (by omega), e 11 (by omega) (by omega), e 12 (by omega) (by omega), e 13 (by omega) (by omega), e 14 (by omega) (by omega), e 15 (by omega) (by omega), e 16 (by omega) (by omega)]
  exact h
theorem BI.keep {N : Nat → Nat} {A B : SA} (h : BI N A) (e2 : ∀ b, b < N 1 → B 2 b = A 2 b) (e3 : ∀ b, b < N 1 → B 3 b = A 3 b) (e : ∀ b j, b < N 1 → j < N 3 → ((B 12 j = 1 ∧ B 14 j = nI b) ↔ (A 12 j = 1 ∧ A 14 j = nI b))) : BI N B := by
  intro b hb
  obtain ⟨r, r1, r2, a2, hf, a3⟩ := h b hb
  have ef : fil (N 3) B b = fil (N 3) A b := cnt_congr (fun j hj => decide_eq_decide.mpr (e b j hb hj))
  exact ⟨r, r1, r2, by rw [e2 b hb]; exact a2, by rw [ef]; exact hf, by rw [ef, e3 b hb]; exact a3⟩
theorem BI.leave {N : Nat → Nat} {A B : SA} {l b0 : Nat} (h : BI N A) (hl : l < N 3) (a12 : A 12 l = 1) (a14 : A 14 l = nI b0) (hb0 : b0 < N 1) (hn : N 1 ≤ 10) (b12 : ¬ B 12 l = 1) (e2 : ∀ b, b < N 1 → B 2 b = A 2 b) (e3 : ∀ b, b < N 1 → B 3 b = if b = b0 then A 3 b - 1 else A 3 b) (e : ∀ j, j ≠ l → B 12 j = A 12 j ∧ B 14 j = A 14 j) : BI N B := by
  intro b hb
  obtain ⟨r, r1, r2, a2, hf, a3⟩ := h b hb
  have c := cnt_one (f := fun l => decide (A 12 l = 1 ∧ A 14 l = nI b)) (g := fun l => decide (B 12 l = 1 ∧ B 14 l = nI b)) (n := N 3) (l := l) (fun j _ hj => by rw [(e j hj).1, (e j hj).2]) hl
  rw [if_neg (by rw [decide_eq_true_eq]; exact fun q => b12 q.1)] at c
  have cA : cnt (fun l => decide (A 12 l = 1 ∧ A 14 l = nI b)) (N 3) = fil (N 3) A b := rfl
  have cB : cnt (fun l => decide (B 12 l = 1 ∧ B 14 l = nI b)) (N 3) = fil (N 3) B b := rfl
  rw [cA, cB] at c
  by_cases q : b = b0
  · rw [if_pos (by rw [decide_eq_true_eq, q]; exact ⟨a12, a14⟩)] at c
    refine ⟨r, r1, r2, by rw [e2 b hb]; exact a2, by omega, ?_⟩
    rw [e3 b hb, if_pos q, a3, show fil (N 3) A b = fil (N 3) B b + 1 by omega, nI_pred]
  · rw [if_neg (by rw [decide_eq_true_eq, a14]; exact fun w => q ((nI_eq (by omega) (by omega)).mp w.2).symm)] at c
    refine ⟨r, r1, r2, by rw [e2 b hb]; exact a2, by omega, ?_⟩
    rw [e3 b hb, if_neg q, a3, show fil (N 3) A b = fil (N 3) B b by omega]
theorem BI.enter {N : Nat → Nat} {A B : SA} {l b0 : Nat} (h : BI N A) (hl : l < N 3) (a12 : ¬ A 12 l = 1) (hb0 : b0 < N 1) (hn : N 1 ≤ 10) (b12 : B 12 l = 1) (b14 : B 14 l = nI b0) (hr : A 3 b0 < A 2 b0) (hn3 : N 3 ≤ 150) (e2 : ∀ b, b < N 1 → B 2 b = A 2 b) (e3 : ∀ b, b < N 1 → B 3 b = if b = b0 then A 3 b + 1 else A 3 b) (e : ∀ j, j ≠ l → B 12 j = A 12 j ∧ B 14 j = A 14 j) : BI N B := by
  intro b hb
  obtain ⟨r, r1, r2, a2, hf, a3⟩ := h b hb
  have c := cnt_one (f := fun l => decide (A 12 l = 1 ∧ A 14 l = nI b)) (g := fun l => decide (B 12 l = 1 ∧ B 14 l = nI b)) (n := N 3) (l := l) (fun j _ hj => by rw [(e j hj).1, (e j hj).2]) hl
  have cA : cnt (fun l => decide (A 12 l = 1 ∧ A 14 l = nI b)) (N 3) = fil (N 3) A b := rfl
  have cB : cnt (fun l => decide (B 12 l = 1 ∧ B 14 l = nI b)) (N 3) = fil (N 3) B b := rfl
  rw [cA, cB, if_neg (c := decide (A 12 l = 1 ∧ A 14 l = nI b) = true) (by rw [decide_eq_true_eq]; exact fun q => a12 q.1)] at c
  by_cases q : b = b0
  · rw [if_pos (by rw [decide_eq_true_eq, q]; exact ⟨b12, b14⟩)] at c
    rw [← q, a2, a3, nI_ltI (by omega) (by omega)] at hr
    refine ⟨r, r1, r2, by rw [e2 b hb]; exact a2, by omega, ?_⟩
    rw [e3 b hb, if_pos q, a3, show fil (N 3) B b = fil (N 3) A b + 1 by omega, nI_1]
  · rw [if_neg (by rw [decide_eq_true_eq, b14]; exact fun w => q ((nI_eq (by omega) (by omega)).mp w.2).symm)] at c
    refine ⟨r, r1, r2, by rw [e2 b hb]; exact a2, by omega, ?_⟩
    rw [e3 b hb, if_neg q, a3, show fil (N 3) A b = fil (N 3) B b by omega]
theorem IV.letter {N : Nat → Nat} {A B : SA} {V : SV} {l : Nat} (h : IV N A V) (e : ∀ k j, 5 ≤ k → k ≤ 16 → k < 7 ∨ (9 ≤ k ∧ j ≠ l) → B k j = A k j) (hB : BI N B) (hL : LI N B l) : IV N B V := by
  refine ⟨h.1, hB, fun o ho => ?_, fun j hj => ?_⟩
  · rw [e 5 o (by omega) (by omega) (by omega), e 6 o (by omega) (by omega) (by omega)]
    exact h.2.2.1 o ho
  · by_cases q : j = l
    · rw [q]; exact hL
    · exact (h.2.2.2 j hj).congr (fun k h1 h2 => e k j (by omega) (by omega) (Or.inr ⟨h1, q⟩))
theorem IV.wash {N : Nat → Nat} {A : SA} {V : SV} {l c : Nat} {t : Int32} (hI : IV N A V) (hl : l < N 3) (hs : A 12 l = 1) : IV N (washF t A c l).1 V := by
  have hI0 := hI
  obtain ⟨⟨hV, n0, n1, n2, n3, n4, n5, n6, n7⟩, hB, hD, hL⟩ := hI
  have hL0 := hL l hl
  obtain ⟨⟨o, ho, a9⟩, ⟨w, hw1, hw2, a10⟩, ⟨s, hs1, hs2, a11⟩, ⟨z, hz, a12⟩, ⟨g, hg, a13, hg2⟩, hbin, ⟨hh, hh2, a15⟩, ⟨y, hy, a16⟩⟩ := hL0
  obtain ⟨b, hb, a14⟩ : ∃ b, b < N 1 ∧ A 14 l = nI b := by
    rcases hbin with ⟨_, q⟩ | ⟨q, _⟩
    · exact q
    · exact absurd hs q
  have hg3 := hg2 (Or.inr hs)
  have hG : A 13 l + (1 + A 10 l / 3) = nI (g + (1 + w / 3)) := by
    rw [a13, a10, show (3 : Int32) = nI 3 from rfl, pk_div (by omega) (by omega) (by omega), show (1 : Int32) = nI 1 from rfl, nI_add, nI_add]
  -- the letter stays
  have stay : ∀ (B : SA) (g2 h2 : Nat), (∀ k j, k < 18 → ¬ ((k = 13 ∨ k = 15) ∧ j = l) → B k j = A k j) → B 13 l = nI g2 → g2 ≤ 60 → B 15 l = nI h2 → h2 ≤ 2 → IV N B V := by
    intro B g2 h2 e b13 hg4 b15 hh4
    refine IV.letter (l := l) hI0 (fun k j h1 h3 h4 => e k j (by omega) (by omega)) ?_ ?_
    · refine BI.keep hB (fun b2 _ => e 2 b2 (by omega) (by omega)) (fun b2 _ => e 3 b2 (by omega) (by omega)) (fun b2 j _ _ => ?_)
      rw [e 12 j (by omega) (by omega), e 14 j (by omega) (by omega)]
    · unfold LI
      rw [e 9 l (by omega) (by omega), e 10 l (by omega) (by omega), e 11 l (by omega) (by omega), e 12 l (by omega) (by omega), e 14 l (by omega) (by omega), e 16 l (by omega) (by omega)]
      exact ⟨⟨o, ho, a9⟩, ⟨w, hw1, hw2, a10⟩, ⟨s, hs1, hs2, a11⟩, ⟨z, hz, a12⟩, ⟨g2, by omega, b13, fun _ => hg4⟩, Or.inl ⟨hs, b, hb, a14⟩, ⟨h2, hh4, b15⟩, ⟨y, hy, a16⟩⟩
  -- it goes
  have goes : ∀ (B : SA) (g2 z2 : Nat), (∀ k j, k < 18 → k ≠ 3 → ¬ ((k = 12 ∨ k = 13 ∨ k = 14 ∨ k = 15) ∧ j = l) → B k j = A k j) → (∀ b2, B 3 b2 = if b2 = b then A 3 b2 - 1 else A 3 b2) → B 13 l = nI g2 → g2 ≤ 64 → B 12 l = nI z2 → 2 ≤ z2 → z2 ≤ 5 → B 14 l = -1 → B 15 l = 0 → IV N B V := by
    intro B g2 z2 e e3 b13 hg4 b12 hz2 hz3 b14 b15
    have nz1 : ¬ B 12 l = 1 := by
      rw [b12, show (1 : Int32) = nI 1 from rfl, nI_eq (by omega) (by omega)]; omega
    have nz0 : ¬ B 12 l = 0 := by
      rw [b12, show (0 : Int32) = nI 0 from rfl, nI_eq (by omega) (by omega)]; omega
    refine IV.letter (l := l) hI0 (fun k j h1 h3 h4 => e k j (by omega) (by omega) (by omega)) ?_ ?_
    · exact BI.leave hB hl hs a14 hb n2 nz1 (fun b2 _ => e 2 b2 (by omega) (by omega) (by omega)) (fun b2 _ => e3 b2) (fun j hj => ⟨e 12 j (by omega) (by omega) (by omega), e 14 j (by omega) (by omega) (by omega)⟩)
    · unfold LI
      rw [e 9 l (by omega) (by omega) (by omega), e 10 l (by omega) (by omega) (by omega), e 11 l (by omega) (by omega) (by omega), e 16 l (by omega) (by omega) (by omega)]
      exact ⟨⟨o, ho, a9⟩, ⟨w, hw1, hw2, a10⟩, ⟨s, hs1, hs2, a11⟩, ⟨z2, hz3, b12⟩, ⟨g2, by omega, b13, fun q => absurd q (by rintro (q | q); exact nz0 q; exact nz1 q)⟩, Or.inr ⟨nz1, b14, b15⟩, ⟨0, by omega, b15⟩, ⟨y, hy, a16⟩⟩
  unfold washF
  rw [a14, nI_clamp (by omega)]
  by_cases hu : t ≤ A 1 b
  · rw [if_pos hu]
    exact stay (up A 15 l 0) g 0 (fun k j _ hk => up_ne (by omega)) (by rw [up_ne (by omega)]; exact a13) hg3 up_eq (by omega)
  · rw [if_neg hu]
    have hx : ∀ x : Int32, (x = nI 0 ∨ x = nI (hh + 1)) → IV N (let B := up (up A 13 l (A 13 l + (1 + A 10 l / 3))) 15 l x; if B 13 l < B 11 l then (if x < 3 then (B, c) else (up (lvA B l b 2) 18 c (nI l), c + 1)) else (lvA B l b 3, c)).1 V := by
      intro x hx
      dsimp only
      rw [up_ne (by omega), up_eq, up_ne (k := 15) (by omega), up_ne (k := 13) (by omega), hG, a11]
      have hlv : ∀ st, ∀ k j, k < 18 → k ≠ 3 → ¬ ((k = 12 ∨ k = 13 ∨ k = 14 ∨ k = 15) ∧ j = l) → lvA (up (up A 13 l (nI (g + (1 + w / 3)))) 15 l x) l b st k j = A k j := by
        intro st k j h1 h2 h3
        unfold lvA
        rw [up_ne (by omega), up_ne (by omega), up_ne (by omega), up_ne (by omega), up_ne (by omega), up_ne (by omega)]
      have hl3 : ∀ st b2, lvA (up (up A 13 l (nI (g + (1 + w / 3)))) 15 l x) l b st 3 b2 = if b2 = b then A 3 b2 - 1 else A 3 b2 := by
        intro st b2
        unfold lvA
        rw [up_ne (by omega), up_ne (by omega), up_ne (by omega), up_at, up_ne (by omega), up_ne (by omega), up_ne (by omega), up_ne (by omega)]
        by_cases q : b2 = b
        · rw [if_pos ⟨rfl, q⟩, if_pos q, q]
        · rw [if_neg (by omega), if_neg q]
      have h13 : ∀ st, lvA (up (up A 13 l (nI (g + (1 + w / 3)))) 15 l x) l b st 13 l = nI (g + (1 + w / 3)) := by
        intro st
        unfold lvA
        rw [up_ne (by omega), up_ne (by omega), up_ne (by omega), up_ne (by omega), up_ne (by omega), up_eq]
      have h14 : ∀ st, lvA (up (up A 13 l (nI (g + (1 + w / 3)))) 15 l x) l b st 14 l = -1 := by
        intro st
        unfold lvA
        rw [up_ne (by omega), up_ne (by omega), up_eq]
      have h15 : ∀ st, lvA (up (up A 13 l (nI (g + (1 + w / 3)))) 15 l x) l b st 15 l = 0 := by
        intro st
        unfold lvA
        rw [up_ne (by omega), up_eq]
      by_cases q : nI (g + (1 + w / 3)) < nI s
      · rw [if_pos q]
        rw [nI_ltI (by omega) (by omega)] at q
        by_cases q2 : x < 3
        · rw [if_pos q2]
          obtain ⟨h2, e2, e3⟩ : ∃ h2, h2 ≤ 2 ∧ x = nI h2 := by
            rcases hx with e | e
            · exact ⟨0, by omega, e⟩
            · rw [e] at q2
              exact ⟨hh + 1, by have := (nI_ltI (b := 3) (by omega) (by omega)).mp q2; omega, e⟩
          dsimp only
          exact stay _ (g + (1 + w / 3)) h2 (fun k j _ hk => by rw [up_ne (by omega), up_ne (by omega)]) (by rw [up_ne (by omega), up_eq]) (by omega) (by rw [up_eq]; exact e3) e2
        · rw [if_neg q2]
          dsimp only
          exact goes _ (g + (1 + w / 3)) 2 (fun k j h1 h2 h3 => by rw [up_ne (by omega)]; exact hlv 2 k j h1 h2 h3) (fun b2 => by rw [up_ne (by omega)]; exact hl3 2 b2) (by rw [up_ne (by omega)]; exact h13 2) (by omega) (by rw [up_ne (by omega)]; exact up_eq) (by omega) (by omega) (by rw [up_ne (by omega)]; exact h14 2) (by rw [up_ne (by omega)]; exact h15 2)
      · rw [if_neg q]
        dsimp only
        exact goes _ (g + (1 + w / 3)) 3 (hlv 3) (hl3 3) (h13 3) (by omega) up_eq (by omega) (by omega) (h14 3) (h15 3)
    refine hx _ ?_
    by_cases q : t < A 4 (A 9 l).toNatClampNeg
    · rw [if_pos q]; exact Or.inl rfl
    · rw [if_neg q, a15, nI_1]; exact Or.inr rfl

