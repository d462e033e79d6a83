/-! ONE LETTER IN AN HOUR: the reference's side, and the state's invariant -/
theorem MR.lv {N : Nat → Nat} {A AM : SA} {VM : SV} {l b : Nat} {st : Int32} (h : MR N A AM VM) : MR N (lvA A l b st) (lvM AM l st) VM := by
  have h2 := MR.upl (k := 6) 0 (MR.upl (k := 5) (-1) (MR.upl (k := 3) st h (l := l) (by omega)) (l := l) (by omega)) (l := l) (by omega)
  refine MR.congr h2 (fun k j hk hk2 => ?_)
  unfold lvA
  simp only [up_at]
  by_cases hj : j = l
  · by_cases q1 : k = 12
    · simp [q1, hj]
    · by_cases q2 : k = 15
      · simp [q2, hj]
      · by_cases q3 : k = 14
        · simp [q3, hj]
        · simp [q1, q2, q3, hk]
  · simp [hj, hk]
theorem up_row {A : SA} {k i q : Nat} {v : Int32} (h : q ≠ k) : up A k i v q = A q := by
  funext j
  exact up_ne (Or.inl h)
theorem lvM_row {A : SA} {l q : Nat} {st : Int32} (h : q ≠ 3) : lvM A l st q = A q := by
  unfold lvM
  rw [up_row h, up_row h, up_row h]
theorem sp_waterM {N : Nat → Nat} {A : SA} {V : SV} {AM : SA} {VM : SV} {l b c : Nat} {t : Int32} {Q : SA → SV → Prop} (hI : IV N A V) (hM : MR N A AM VM) (hl : l < N 3) (hb : b < N 1) (hA : A 14 l = nI b)
    (h : ∀ AM', MR N (washF t A c l).1 AM' VM → (∀ q, 4 ≤ q → AM' q = AM q) → Q AM' VM) : wpX6_water AM VM (nI l) t Q := by
  obtain ⟨⟨hV, n0, n1, n2, n3, n4, n5, n6, n7⟩, hB, hD, hL⟩ := hI
  obtain ⟨⟨o, ho, a9⟩, ⟨w, hw1, hw2, a10⟩, ⟨s, hs1, hs2, a11⟩, ⟨z, hz, a12⟩, ⟨g, hg, a13, hg2⟩, hbin, ⟨hh, hh2, a15⟩, ⟨y, hy, a16⟩⟩ := hL l hl
  have hM0 := hM
  obtain ⟨m1, m2, m3, m4, m5, m6, m7, m8, m9, m10, m11⟩ := hM
  unfold wpX6_water wb_X6_water_0
  refine sp_get (k := 5) (by omega) (by omega) ?_
  rw [m11 l 5 hl (by omega)]
  show wpX6_isUnder AM VM (A 14 l) t _
  rw [hA]
  refine sp_isUnder6 (by omega) ?_
  rw [(m9 b hb).1]
  unfold washF at h
  rw [hA, nI_clamp (by omega)] at h
  by_cases hu : t ≤ A 1 b
  · rw [if_pos hu] at h ⊢
    refine ⟨fun q => absurd rfl q, fun _ => sp_set (k := 6) (by omega) (by omega) (h _ (MR.upl (k := 6) 0 hM0 (by omega)) (fun q hq => up_row (by omega)))⟩
  · rw [if_neg hu] at h ⊢
    refine ⟨fun _ => ?_, fun q => absurd q (by decide)⟩
    refine sp_get (k := 4) (by omega) (by omega) (sp_get (k := 1) (by omega) (by omega) ⟨by decide, sp_set (k := 4) (by omega) (by omega) (sp_get (k := 4) (by omega) (by omega) (sp_get (k := 2) (by omega) (by omega) ?_))⟩)
    rw [m11 l 4 hl (by omega), m11 l 1 hl (by omega)]
    rw [show (A (9 + 4) l + 1) + A (9 + 1) l / 3 = A 13 l + (1 + A 10 l / 3) from Int32.add_assoc _ _ _]
    have hM1 := MR.upl (k := 4) (l := l) (A 13 l + (1 + A 10 l / 3)) hM0 (by omega)
    rw [a9, nI_clamp (by omega)] at h
    rw [up_eq, up_ne (by omega), m11 l 2 hl (by omega)]
    show (A 13 l + (1 + A 10 l / 3) < A 11 l → _) ∧ (¬ A 13 l + (1 + A 10 l / 3) < A 11 l → _)
    have key : ∀ x : Int32, up (up A 13 l (A 13 l + (1 + A 10 l / 3))) 15 l x 13 l = A 13 l + (1 + A 10 l / 3) := fun x => by rw [up_ne (by omega), up_eq]
    have key2 : ∀ x : Int32, up (up A 13 l (A 13 l + (1 + A 10 l / 3))) 15 l x 11 l = A 11 l := fun x => by rw [up_ne (by omega), up_ne (by omega)]
    dsimp only at h
    rw [key, key2] at h
    refine ⟨fun hq => ?_, fun hq => ?_⟩
    · rw [if_pos hq] at h
      refine sp_get (k := 0) (by omega) (by omega) ?_
      rw [up_ne (by omega), m11 l 0 hl (by omega)]
      show wpX6_one _ _ (A 9 l) 0 _
      rw [a9]
      refine sp_one (k := 0) (by omega) (by omega) ?_
      rw [up_ne (by omega), m10 o 0 ho (by omega)]
      show (t < A 4 o → _) ∧ (¬ t < A 4 o → _)
      have fin : ∀ x : Int32, (x = 3 ∨ x < 3) → (∀ AM', MR N (if x < 3 then (up (up A 13 l (A 13 l + (1 + A 10 l / 3))) 15 l x, c) else (up (lvA (up (up A 13 l (A 13 l + (1 + A 10 l / 3))) 15 l x) l b 2) 18 c (nI l), c + 1)).1 AM' VM → (∀ q, 4 ≤ q → AM' q = AM q) → Q AM' VM) → wb_X6_water_101 Q (up AM 3 (9 * l + 4) (A 13 l + (1 + A 10 l / 3))) VM (nI l) (nI l) 6 x := by
        intro x hx hq2
        unfold wb_X6_water_101
        refine sp_set (k := 6) (by omega) (by omega) (sp_get (k := 6) (by omega) (by omega) ?_)
        rw [up_eq]
        have hM2 := MR.upl (k := 6) (l := l) x hM1 (by omega)
        refine ⟨fun q => ?_, fun q => ?_⟩
        · rcases hx with e | e
          · exact absurd e q
          · rw [if_pos e] at hq2
            exact hq2 _ hM2 (fun q3 h3 => by rw [up_row (by omega), up_row (by omega)])
        · rw [if_neg (by rw [q]; decide)] at hq2
          refine sp_leave (by omega) (hq2 _ (MR.congr (MR.lv (b := b) hM2) (fun k j h1 h2 => up_ne (by omega))) (fun q3 h3 => ?_))
          rw [lvM_row (by omega), up_row (by omega), up_row (by omega)]
      refine ⟨fun q2 => ?_, fun q2 => ?_⟩
      · rw [if_pos q2] at h
        exact fin 0 (Or.inr (by decide)) h
      · rw [if_neg q2] at h
        refine sp_get (k := 6) (by omega) (by omega) ?_
        rw [up_ne (by omega), m11 l 6 hl (by omega)]
        refine fin (A 15 l + 1) ?_ h
        rw [a15, nI_1]
        rcases Nat.lt_or_ge (hh + 1) 3 with e | e
        · exact Or.inr ((nI_ltI (b := 3) (by omega) (by omega)).mpr e)
        · have : hh + 1 = 3 := by omega
          rw [this]; exact Or.inl rfl
    · rw [if_neg hq] at h
      have e : ∀ x, MR N (lvA (up (up A 13 l (A 13 l + (1 + A 10 l / 3))) 15 l x) l b 3) (lvM (up AM 3 (9 * l + 4) (A 13 l + (1 + A 10 l / 3))) l 3) VM := by
        intro x
        refine MR.congr (MR.lv (b := b) hM1) (fun k j h1 h2 => ?_)
        unfold lvA
        simp only [up_at]
        by_cases hj : j = l
        · by_cases q2 : k = 15
          · simp [q2, hj]
          · simp [q2, hj, h1]
        · simp [hj, h1]
      exact sp_leave (by omega) (h _ (e _) (fun q3 h3 => by rw [lvM_row (by omega), up_row (by omega)]))
