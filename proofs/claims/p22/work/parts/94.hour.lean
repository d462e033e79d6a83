/-! ONE HOUR, both sides -/
def nh (N : Nat → Nat) : Nat → Nat := fun q => if q = 4 then N 4 + 1 else N q
def hrT (A : SA) (N : Nat → Nat) : Int32 := A 0 (N 4 % N 0)
def hrW (A : SA) (N : Nat → Nat) : SA × Nat := wtF (hrT A N) A (N 3)
def hrG (A : SA) (N : Nat → Nat) : SA × (Nat → Nat) := gxF (flg (hrT A N) A) (hrW A N).1 N (N 3)
def hrB (A : SA) (N : Nat → Nat) : SA := nrF (hrT A N) (hrG A N).1 (N 3)
def hrC (A : SA) (N : Nat → Nat) : SA := scF (hrT A N) ((hrG A N).2 3) (clF (hrB A N) ((hrG A N).2 3)) ((hrG A N).2 5)
def hrD (A : SA) (N : Nat → Nat) : SA := soF (hrG A N).2 (hrC A N) ((hrG A N).2 6)
def hrN (A : SA) (N : Nat → Nat) : Nat → Nat := nh (hrG A N).2
theorem IV.hour {N : Nat → Nat} {A : SA} {V : SV} (h : IV N A V) (h4 : N 4 < 2 ^ 20) : IV (nh N) A (uv V 4 (nI (N 4 + 1))) := by
  obtain ⟨⟨hV, n0, n1, n2, n3, n4, n5, n6, n7⟩, hB, hD, hL⟩ := h
  refine ⟨⟨fun k hk => ?_, n0, n1, n2, n3, n4, ?_, n6, n7⟩, hB, hD, hL⟩
  · rw [uv_at]
    unfold nh
    split
    · rfl
    · exact hV k hk
  · show N 4 + 1 ≤ 2 ^ 20
    omega
theorem hr_IVs {N : Nat → Nat} {A : SA} {V : SV} (h : IV N A V) : IV N (hrW A N).1 (uv V 7 (nI (hrW A N).2)) ∧ IV (hrG A N).2 (hrG A N).1 (uv (uv V 7 (nI (hrW A N).2)) 3 (nI ((hrG A N).2 3))) ∧ IV (hrG A N).2 (hrB A N) (uv (uv V 7 (nI (hrW A N).2)) 3 (nI ((hrG A N).2 3))) ∧ IV (hrG A N).2 (hrC A N) (uv (uv V 7 (nI (hrW A N).2)) 3 (nI ((hrG A N).2 3))) ∧ IV (hrG A N).2 (hrD A N) (uv (uv V 7 (nI (hrW A N).2)) 3 (nI ((hrG A N).2 3))) ∧ N 3 ≤ (hrG A N).2 3 := by
  have i0 := wtF_IV (t := hrT A N) h (N 3) (Nat.le_refl _)
  have i1 : IV N (hrW A N).1 (uv V 7 (nI (hrW A N).2)) := ⟨i0.1.uv7, i0.2⟩
  have i2 := gx_IV (f := flg (hrT A N) A) i1 (N 3) (Nat.le_refl _)
  have g0 : N 3 ≤ (hrG A N).2 3 := gx_ge (N 3)
  have i3 := nr_IV (t := hrT A N) i2 (N 3) g0
  have i4 := scF_IV (t := hrT A N) (i3.frame (B := clF (hrB A N) ((hrG A N).2 3)) (fun k j hk => clF_ne (by omega) _ _)) ((hrG A N).2 5)
  have i5 := soF_IV i4 ((hrG A N).2 6)
  exact ⟨i1, i2, i3, i4, i5, g0⟩
theorem sp_hour {N : Nat → Nat} {A : SA} {V : SV} {Q : SA → SV → Prop} (hI : IV N A V) (h4 : N 4 < 2 ^ 20) (h : ∀ V', IV (hrN A N) (hrD A N) V' → V' 7 = nI (hrW A N).2 → Q (hrD A N) V') : wpX3_liveOneHour A V Q := by
  obtain ⟨i1, i2, i3, i4, i5, g0⟩ := hr_IVs hI
  obtain ⟨hV, n0, n1, n2, n3, n4, n5, n6, n7⟩ := id hI.1
  unfold wpX3_liveOneHour wb_X3_liveOneHour_0
  refine sp_tideNow (hV 0 (by omega)) (hV 4 (by omega)) n0 n1 (by omega) ?_
  show wpX3_water A V (hrT A N) _
  refine sp_water hI (sp_writeAnswers (f := flg (hrT A N) A) (cm := fun m => (wtF (hrT A N) A m).2) i1 rfl rfl (fun m q => ?_) (fun m q => ?_) (fun m hm q => ?_) ?_)
  · exact of_decide_eq_true q
  · rcases wtF_c (t := hrT A N) (A := A) (m := m) with ⟨e, _⟩ | ⟨_, e, _⟩
    · exact absurd e q
    · exact e
  · have e := wtF_sunk q (N 3 - (m + 1))
    rw [show m + 1 + (N 3 - (m + 1)) = N 3 by omega] at e
    exact e
  · rw [hV 3 (by omega)]
    refine sp_nearer i2 g0 (sp_scrape i3 (sp_sort i4 (fun V' ev => ?_)))
    have e4 : uv (uv V 7 (nI (hrW A N).2)) 3 (nI ((hrG A N).2 3)) 4 + 1 = nI ((hrG A N).2 4 + 1) := by rw [i5.1.1 4 (by omega), nI_1]
    have hN4 : (hrG A N).2 4 = N 4 := gx_ne (N 3) 4 (by omega)
    have i6 := i5.hour (by omega)
    rw [← e4] at i6
    refine h V' ?_ ?_
    · rw [ev]; exact i6
    · rw [ev, uv_at, if_neg (by omega), uv_at, if_neg (by omega), uv_at, if_pos rfl]; rfl
