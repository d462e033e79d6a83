/-! ONE LETTER MORE -/
def nx (N : Nat → Nat) : Nat → Nat := fun q => if q = 3 then N 3 + 1 else N q
theorem nx_3 (N : Nat → Nat) : nx N 3 = N 3 + 1 := rfl
theorem nx_ne {N : Nat → Nat} {q : Nat} (h : q ≠ 3) : nx N q = N q := by unfold nx; rw [if_neg h]
def adA (A : SA) (k : Nat) (a b c d e f : Int32) : SA := up (up (up (up (up (up (up (up (up A 9 k a) 10 k b) 11 k c) 12 k d) 13 k 0) 14 k (-1)) 15 k 0) 16 k e) 17 k f
theorem adA_ne {A : SA} {k : Nat} {a b c d e f : Int32} {q j : Nat} (h : j ≠ k ∨ q < 9 ∨ 17 < q) : adA A k a b c d e f q j = A q j := by
  unfold adA
  rw [up_ne (by omega), up_ne (by omega), up_ne (by omega), up_ne (by omega), up_ne (by omega), up_ne (by omega), up_ne (by omega), up_ne (by omega), up_ne (by omega)]
theorem adA_at {A : SA} {k : Nat} {a b c d e f : Int32} : adA A k a b c d e f 9 k = a ∧ adA A k a b c d e f 10 k = b ∧ adA A k a b c d e f 11 k = c ∧ adA A k a b c d e f 12 k = d ∧ adA A k a b c d e f 13 k = 0 ∧ adA A k a b c d e f 14 k = -1 ∧ adA A k a b c d e f 15 k = 0 ∧ adA A k a b c d e f 16 k = e ∧ adA A k a b c d e f 17 k = f := by
  refine ⟨?_, ?_, ?_, ?_, ?_, ?_, ?_, ?_, ?_⟩ <;> simp [adA, up_at]
theorem adA_re {A : SA} {k : Nat} {a b c d e f d2 e2 f2 : Int32} : up (up (up (adA A k a b c d e f) 12 k d2) 16 k e2) 17 k f2 = adA A k a b c d2 e2 f2 := by
  funext q j
  simp only [adA, up_at]
  by_cases hj : j = k
  · by_cases h1 : q = 17
    · simp [h1, hj]
    · by_cases h2 : q = 16
      · simp [h2, hj]
      · by_cases h3 : q = 12
        · simp [h3, hj]
        · simp [h1, h2, h3]
  · simp [hj]
theorem sp_append {A : SA} {V : SV} {k : Nat} {a b c : Int32} {Q : Int32 → SA → SV → Prop} (hV : V 3 = nI k) (hk : k < 150) (h : Q (nI k) (adA A k a b c 0 0 (-1)) (uv V 3 (nI (k + 1)))) : wpX2_append A V a b c Q := by
  have hin : vp_in (nI k) 150 := vp_in_nI (by omega) (by omega)
  unfold wpX2_append wb_X2_append_0
  rw [hV, nI_clamp (by omega)]
  refine ⟨fun _ => ⟨hin, fun A1 e1 => ⟨hin, fun A2 e2 => ⟨hin, fun A3 e3 => ⟨hin, fun A4 e4 => ⟨hin, fun A5 e5 => ⟨hin, fun A6 e6 => ⟨hin, fun A7 e7 => ⟨hin, fun A8 e8 => ⟨hin, fun A9 e9 V1 ev => ?_⟩⟩⟩⟩⟩⟩⟩⟩⟩, fun q => absurd ((nI_ltI (b := 150) (by omega) (by omega)).mpr hk) q⟩
  rw [ev, e9, e8, e7, e6, e5, e4, e3, e2, e1, nI_1]
  exact h
theorem sp_appendFull {A : SA} {V : SV} {a b c : Int32} {Q : Int32 → SA → SV → Prop} (hV : V 3 = nI 150) (h : Q (-1) A V) : wpX2_append A V a b c Q := by
  unfold wpX2_append wb_X2_append_0
  rw [hV]
  exact ⟨fun q => absurd q (by decide), fun _ => h⟩
theorem sp_answer {A : SA} {V : SV} {k l : Nat} {x : Int32} {Q : Int32 → SA → SV → Prop} (hV : V 3 = nI k) (hk : k < 150) (hl : l < k) (h : Q 1 (adA A k (A 9 l) (A 10 l) (A 11 l) 4 x (nI l)) (uv V 3 (nI (k + 1)))) : wpX2_answer A V (nI l) x Q := by
  have hin : vp_in (nI l) 150 := vp_in_nI (by omega) (by omega)
  have hin2 : vp_in (nI k) 150 := vp_in_nI (by omega) (by omega)
  unfold wpX2_answer wb_X2_answer_0
  refine sp_has2 ?_
  rw [hV, hasI_t hl (by omega), nI_clamp (by omega)]
  refine ⟨fun _ => ⟨hin, hin, hin, sp_append hV hk (sp_has2 ?_)⟩, fun q => absurd q (by decide)⟩
  rw [uv_at, if_pos rfl, hasI_t (by omega) (by omega), nI_clamp (by omega)]
  refine ⟨fun _ => ⟨hin2, fun A1 e1 => ⟨hin2, fun A2 e2 => ⟨hin2, fun A3 e3 => ?_⟩⟩⟩, fun q => absurd q (by decide)⟩
  rw [e3, e2, e1, adA_re]
  exact h
theorem sp_answerFull {A : SA} {V : SV} {l : Nat} {x : Int32} {Q : Int32 → SA → SV → Prop} (hV : V 3 = nI 150) (hl : l < 150) (h : Q 0 A V) : wpX2_answer A V (nI l) x Q := by
  have hin : vp_in (nI l) 150 := vp_in_nI (by omega) (by omega)
  unfold wpX2_answer wb_X2_answer_0
  refine sp_has2 ?_
  rw [hV, hasI_t hl (by omega)]
  refine ⟨fun _ => ⟨hin, hin, hin, sp_appendFull hV (sp_has2 ?_)⟩, fun q => absurd q (by decide)⟩
  rw [hasI_m1]
  exact ⟨fun q => absurd rfl q, fun _ => h⟩
theorem sp_addM {N : Nat → Nat} {A AM : SA} {VM : SV} {a b c d e f : Int32} {Q : SA → SV → Prop} (hM : MR N A AM VM) (hn : N 3 < 150)
    (h : ∀ AM' VM', MR (nx N) (adA A (N 3) a b c d e f) AM' VM' → (∀ q, 4 ≤ q → AM' q = AM q) → VM' 0 = VM 0 → Q AM' VM') : wpX6_add AM VM a b c d e f Q := by
  obtain ⟨h1, h2, h3, h4, h5, h6, h7, h8, h9, h10, h11⟩ := hM
  intro f2 g2 f3 g3 f4 g4 f5 g5 f6 g6 f7 g7 f8 g8 f9 g9 f10 g10
  rw [h5, show (9 : Int32) * nI (N 3) = nI (9 * (N 3)) by rw [← Nat.add_zero (9 * N 3), ← nI_9, show nI 0 = 0 from rfl, Int32.add_zero], nI_clamp (by omega), show (0 : Int32).toNatClampNeg = 0 from rfl, show (9 : Int32).toNatClampNeg = 9 from rfl]
  refine ⟨by decide, nI_pos (by omega), by decide, by omega, by omega, fun A1 ea V1 ev => ?_⟩
  rw [nI_1] at ev
  have hv : ∀ q, q ≠ 5 → V1 q = VM q := fun q hq => by rw [ev, uv_at, if_neg hq]
  have hr : ∀ q, q ≠ 3 → A1 q = AM q := fun q hq => by rw [ea]; funext j; rw [ua_at, if_neg hq]
  refine h A1 V1 ⟨?_, ?_, ?_, ?_, ?_, ?_, ?_, fun j hj => ?_, fun b2 hb => ⟨?_, ?_⟩, fun o k ho hk => ?_, fun l k hl hk => ?_⟩ (fun q hq => hr q (by omega)) (hv 0 (by omega))
  · rw [hv 1 (by omega), nx_ne (by omega)]; exact h1
  · rw [hv 2 (by omega), nx_ne (by omega)]; exact h2
  · rw [hv 3 (by omega), nx_ne (by omega)]; exact h3
  · rw [hv 4 (by omega), nx_ne (by omega)]; exact h4
  · rw [ev, uv_at, if_pos rfl, nx_3]
  · rw [hv 6 (by omega), nx_ne (by omega)]; exact h6
  · rw [hv 7 (by omega), nx_ne (by omega)]; exact h7
  · rw [hr 0 (by omega), adA_ne (by omega)]; exact h8 j (by rw [nx_ne (by omega)] at hj; exact hj)
  · rw [hr 1 (by omega), adA_ne (by omega)]; exact (h9 b2 (by rw [nx_ne (by omega)] at hb; exact hb)).1
  · rw [hr 1 (by omega), adA_ne (by omega)]; exact (h9 b2 (by rw [nx_ne (by omega)] at hb; exact hb)).2
  · rw [hr 2 (by omega), adA_ne (by omega)]; exact h10 o k (by rw [nx_ne (by omega)] at ho; exact ho) hk
  · rw [nx_3] at hl
    rw [ea, ua_at, if_pos rfl]
    by_cases q : l = N 3
    · rw [pk_cpy_in (by omega) (by omega), q, Nat.zero_add, Nat.add_sub_cancel_left]
      obtain ⟨c1, c2, c3, c4, c5, c6, c7, c8, c9⟩ := @adA_at A (N 3) a b c d e f
      have hk9 : k = 0 ∨ k = 1 ∨ k = 2 ∨ k = 3 ∨ k = 4 ∨ k = 5 ∨ k = 6 ∨ k = 7 ∨ k = 8 := by omega
      rcases hk9 with e | e | e | e | e | e | e | e | e <;> subst e
      · rw [c1, g10, g9, g8, g7, g6, g5, g4, g3, g2]; rfl
      · rw [c2, g10, g9, g8, g7, g6, g5, g4, g3, g2]; rfl
      · rw [c3, g10, g9, g8, g7, g6, g5, g4, g3, g2]; rfl
      · rw [c4, g10, g9, g8, g7, g6, g5, g4, g3, g2]; rfl
      · rw [c5, g10, g9, g8, g7, g6, g5, g4, g3, g2]; rfl
      · rw [c6, g10, g9, g8, g7, g6, g5, g4, g3, g2]; rfl
      · rw [c7, g10, g9, g8, g7, g6, g5, g4, g3, g2]; rfl
      · rw [c8, g10, g9, g8, g7, g6, g5, g4, g3, g2]; rfl
      · rw [c9, g10, g9, g8, g7, g6, g5, g4, g3, g2]; rfl
    · rw [pk_cpy_out (by omega), adA_ne (by omega)]
      exact h11 l k (by omega) hk
