/-! ONE LETTER MORE -/
def nx (N : Nat → Nat) : Nat → Nat := fun q => if q = 3 then N 3 + 1 else N q
theorem nx_3 (N : Nat → Nat) : nx N 3 = N 3 + 1 := rfl
theorem nx_ne {N : Nat → Nat} {q : Nat} (h : q ≠ 3) : nx N q = N q := by unfold nx; rw [if_neg h]
def adA (A : SA) (k : Nat) (a b c d e f : Int32) : SA := up (up (up (up (up (up (up (up (up A 9 k a) 10 k b) 11 k c) 12 k d) 13 k 0) 14 k (-1)) 15 k 0) 16 k e) 17 k f
theorem adA_ne {A : SA} {k : Nat} {a b c d e f : Int32} {q j : Nat} (h : j ≠ k ∨ q < 9 ∨ 17 < q) : adA A k a b c d e f q j = A q j := by
  unfold adA
  rw [up_ne (by omega), up_ne (by omega), up_ne (by omega), up_ne (by omega), up_ne (by omega), up_ne (by omega), up_ne (by omega), up_ne (by omega), up_ne (by omega)]
theorem adA_at {A : SA} {k : Nat} {a b c d e f : Int32} : adA A k a b c d e f 9 k = a ∧ adA A k a b c d e f 10 k = b ∧ adA A k a b c d e f 11 k = c ∧ adA A k a b c d e f 12 k = d ∧ adA A k a b c d e f 13 k = 0 ∧ adA A k a b c d e f 14 k = -1 ∧ adA A k a b c d e f 15 k = 0 ∧ adA A k a b c d e f 16 k = e ∧ adA A k a b c d e f 17 k = f := by
  refine ⟨?_, ?_, ?_, ?_, ?_, ?_, ?_, ?_, ?_⟩ <;> simp [adA, up_at]
theorem adA_re {A : SA} {k : Nat} {a b c d e f d2 e2 f2 : Int32} : up (up (up (adA A k a b c d e f) 12 k d2) 16 k e2) 17 k f2 = adA A k a b c d2 e2 f2 := by
  funext q j
  simp only [adA, up_at]
  by_cases hj : j = k
  · by_cases h1 : q = 17
    · simp [h1, hj]
    · by_cases h2 : q = 16
      · simp [h2, hj]
      · by_cases h3 : q = 12
        · simp [h3, hj]
        · simp [h1, h2, h3]
  · simp [hj]
theorem sp_append {A : SA} {V : SV} {k : Nat} {a b c : Int32} {Q : Int32 → SA → SV → Prop} (hV : V 3 = nI k) (hk : k < 150) (h : Q (nI k) (adA A k a b c 0 0 (-1)) (uv V 3 (nI (k + 1)))) : wpX2_append A V a b c Q := by
  have hin : vp_in (nI k) 150 := vp_in_nI (by omega) (by omega)
  unfold wpX2_append wb_X2_append_0
  rw [hV, nI_clamp (by omega)]
  refine ⟨fun _ => ⟨hin, fun A1 e1 => ⟨hin, fun A2 e2 => ⟨hin, fun A3 e3 => ⟨hin, fun A4 e4 => ⟨hin, fun A5 e5 => ⟨hin, fun A6 e6 => ⟨hin, fun A7 e7 => ⟨hin, fun A8 e8 => ⟨hin, fun A9 e9 V1 ev => ?_⟩⟩⟩⟩⟩⟩⟩⟩⟩, fun q => absurd ((nI_ltI (b := 150) (by omega) (by omega)).mpr hk) q⟩
  rw [ev, e9, e8, e7, e6, e5, e4, e3, e2, e1, nI_1]
  exact h
theorem sp_appendFull {A : SA} {V : SV} {a b c : Int32} {Q : Int32 → SA → SV → Prop} (hV : V 3 = nI 150) (h : Q (-1) A V) : wpX2_append A V a b c Q := by
  unfold wpX2_append wb_X2_append_0
  rw [hV]
  exact ⟨fun q => absurd q (by decide), fun _ => h⟩
theorem sp_answer {A : SA} {V : SV} {k l : Nat} {x : Int32} {Q : Int32 → SA → SV → Prop} (hV : V 3 = nI k) (hk : k < 150) (hl : l < k) (h : Q 1 (adA A k (A 9 l) (A 10 l) (A 11 l) 4 x (nI l)) (uv V 3 (nI (k + 1)))) : wpX2_answer A V (nI l) x Q := by
  have hin : vp_in (nI l) 150 := vp_in_nI (by omega) (by omega)
  have hin2 : vp_in (nI k) 150 := vp_in_nI (by omega) (by omega)
  unfold wpX2_answer wb_X2_answer_0
  refine sp_has2 ?_
  rw [hV, hasI_t hl (by omega), nI_clamp (by omega)]
  refine ⟨fun _ => ⟨hin, hin, hin, sp_append hV hk (sp_has2 ?_)⟩, fun q => absurd q (by decide)⟩
  rw [uv_at, if_pos rfl, hasI_t (by omega) (by omega), nI_clamp (by omega)]
  refine ⟨fun _ => ⟨hin2, fun A1 e1 => ⟨hin2, fun A2 e2 => ⟨hin2, fun A3 e3 => ?_⟩⟩⟩, fun q => absurd q (by decide)⟩
  rw [e3, e2, e1, adA_re]
  exact h
theorem sp_answerFull {A : SA} {V : SV} {l : Nat} {x : Int32} {Q : Int32 → SA → SV → Prop} (hV : V 3 = nI 150) (hl : l < 150) (h : Q 0 A V) : wpX2_answer A V (nI l) x Q := by
  have hin : vp_in (nI l) 150 := vp_in_nI (by omega) (by omega)
  unfold wpX2_answer wb_X2_answer_0
  refine sp_has2 ?_
  rw [hV, hasI_t hl (by omega)]
  refine ⟨fun _ => ⟨hin, hin, hin, sp_appendFull hV (sp_has2 ?_)⟩, fun q => absurd q (by decide)⟩
  rw [hasI_m1]
  exact ⟨fun q => absurd rfl q, fun _ => h⟩
