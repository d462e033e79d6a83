/-! THE ANSWERS of an hour; f: who went down -/
theorem uv_uv (V : SV) (k : Nat) (a b : Int32) : uv (uv V k a) k b = uv V k b := by
  funext j
  rw [uv_at, uv_at, uv_at]
  split <;> rfl
theorem anF_N {A : SA} {N : Nat → Nat} {l : Nat} : ((anF A N l).2 3 = N 3 ∨ (anF A N l).2 3 = N 3 + 1) ∧ (∀ q, q ≠ 3 → (anF A N l).2 q = N q) ∧ ∀ j, (anF A N l).1 18 j = A 18 j := by
  unfold anF
  dsimp only
  split
  · exact ⟨Or.inl rfl, fun _ _ => rfl, fun j => by dsimp only; rw [up_ne (by omega)]⟩
  · split
    · exact ⟨Or.inl rfl, fun _ _ => rfl, fun j => by dsimp only; rw [up_ne (by omega)]⟩
    · split
      · exact ⟨Or.inl rfl, fun _ _ => rfl, fun j => by dsimp only; rw [up_ne (by omega)]⟩
      · refine ⟨Or.inr rfl, fun q hq => nx_ne hq, fun j => ?_⟩
        dsimp only
        rw [up_ne (by omega), adA_ne (by omega), up_ne (by omega)]
def gxF (f : Nat → Bool) (A : SA) (N : Nat → Nat) : Nat → SA × (Nat → Nat)
  | 0 => (A, N)
  | m + 1 => if f m = true then anF (gxF f A N m).1 (gxF f A N m).2 m else gxF f A N m
theorem gx_t {f : Nat → Bool} {A : SA} {N : Nat → Nat} {m : Nat} (h : f m = true) : gxF f A N (m + 1) = anF (gxF f A N m).1 (gxF f A N m).2 m := by
  rw [gxF, if_pos h]
theorem gx_f {f : Nat → Bool} {A : SA} {N : Nat → Nat} {m : Nat} (h : ¬ f m = true) : gxF f A N (m + 1) = gxF f A N m := by
  rw [gxF, if_neg h]
theorem gx_s {f : Nat → Bool} {A : SA} {N : Nat → Nat} (m : Nat) : (gxF f A N m).2 3 ≤ (gxF f A N (m + 1)).2 3 ∧ (gxF f A N (m + 1)).2 3 ≤ (gxF f A N m).2 3 + 1 ∧ (∀ q, q ≠ 3 → (gxF f A N (m + 1)).2 q = (gxF f A N m).2 q) ∧ ∀ j, (gxF f A N (m + 1)).1 18 j = (gxF f A N m).1 18 j := by
  by_cases h : f m = true
  · rw [gx_t h]
    obtain ⟨h1, h2, h3⟩ := @anF_N (gxF f A N m).1 (gxF f A N m).2 m
    exact ⟨by omega, by omega, h2, h3⟩
  · rw [gx_f h]
    exact ⟨Nat.le_refl _, by omega, fun _ _ => rfl, fun _ => rfl⟩
theorem gx_mono {f : Nat → Bool} {A : SA} {N : Nat → Nat} (m : Nat) : ∀ d, (gxF f A N m).2 3 ≤ (gxF f A N (m + d)).2 3 := by
  intro d
  induction d with
  | zero => exact Nat.le_refl _
  | succ d ih => exact Nat.le_trans ih (gx_s (m + d)).1
theorem gx_ge {f : Nat → Bool} {A : SA} {N : Nat → Nat} (m : Nat) : N 3 ≤ (gxF f A N m).2 3 := by
  have h := gx_mono (f := f) (A := A) (N := N) 0 m
  rw [Nat.zero_add] at h
  exact h
theorem gx_ne {f : Nat → Bool} {A : SA} {N : Nat → Nat} : ∀ m q, q ≠ 3 → (gxF f A N m).2 q = N q := by
  intro m
  induction m with
  | zero => exact fun _ _ => rfl
  | succ m ih => exact fun q hq => by rw [(gx_s m).2.2.1 q hq]; exact ih q hq
theorem gx_18 {f : Nat → Bool} {A : SA} {N : Nat → Nat} : ∀ m j, (gxF f A N m).1 18 j = A 18 j := by
  intro m
  induction m with
  | zero => exact fun _ => rfl
  | succ m ih => exact fun j => by rw [(gx_s m).2.2.2 j]; exact ih j
theorem gx_IV {f : Nat → Bool} {A : SA} {N : Nat → Nat} {V : SV} (h : IV N A V) : ∀ m, m ≤ N 3 → IV (gxF f A N m).2 (gxF f A N m).1 (uv V 3 (nI ((gxF f A N m).2 3))) := by
  intro m
  induction m with
  | zero => intro _; rw [show gxF f A N 0 = (A, N) from rfl]; dsimp only; rw [uv_same (h.1.1 3 (by omega))]; exact h
  | succ m ih =>
    intro hm
    have hi := ih (by omega)
    by_cases q : f m = true
    · rw [gx_t q]
      have h2 := hi.ans (l := m) (Nat.lt_of_lt_of_le (by omega) (gx_ge m))
      rw [uv_uv] at h2
      exact h2
    · rw [gx_f q]; exact hi
theorem sp_writeAnswers {f : Nat → Bool} {cm : Nat → Nat} {A : SA} {N : Nat → Nat} {V : SV} {Q : SA → SV → Prop} (hI : IV N A V) (hV7 : V 7 = nI (cm (N 3))) (c0 : cm 0 = 0)
    (ct : ∀ m, f m = true → cm (m + 1) = cm m + 1) (cf : ∀ m, ¬ f m = true → cm (m + 1) = cm m) (hs : ∀ m, m < N 3 → f m = true → A 18 (cm m) = nI m)
    (h : Q (gxF f A N (N 3)).1 (uv V 3 (nI ((gxF f A N (N 3)).2 3)))) : wpX3_writeAnswers A V Q := by
  have hn : N 3 ≤ 150 := hI.1.2.2.2.2.2.1
  have cle : ∀ m, cm m ≤ m := by
    intro m
    induction m with
    | zero => omega
    | succ m ih =>
      by_cases q : f m = true
      · rw [ct m q]; omega
      · rw [cf m q]; omega
  have cmo : ∀ m d, cm m ≤ cm (m + d) := by
    intro m d
    induction d with
    | zero => exact Nat.le_refl _
    | succ d ih =>
      have e0 : m + (d + 1) = (m + d) + 1 := rfl
      rw [e0]
      by_cases q : f (m + d) = true
      · rw [ct _ q]; omega
      · rw [cf _ q]; exact ih
  have key : ∀ d m, m + d = N 3 → wl_X3_writeAnswers_2 Q (cm (N 3) - cm m + 1) (gxF f A N m).1 (uv V 3 (nI ((gxF f A N m).2 3))) (nI (cm m)) := by
    intro d
    induction d with
    | zero =>
      intro m hm
      have e : m = N 3 := by omega
      rw [e]
      refine ⟨fun _ => h, fun hc => absurd ?_ hc⟩
      rw [uv_at, if_neg (by omega), hV7]
      exact Int32.le_refl _
    | succ d ih =>
      intro m hm
      have hi := ih (m + 1) (by omega)
      by_cases q : f m = true
      · have c1 := ct m q
        have c2 := cmo (m + 1) d
        rw [show m + 1 + d = N 3 by omega] at c2
        have c3 := cle m
        have c4 := cle (N 3)
        rw [c1] at hi c2
        have ef : cm (N 3) - cm m + 1 = (cm (N 3) - (cm m + 1) + 1) + 1 := by omega
        rw [ef]
        have hIm := gx_IV (f := f) hI m (by omega)
        have hlt : m < (gxF f A N m).2 3 := Nat.lt_of_lt_of_le (by omega) (gx_ge m)
        have hle : (gxF f A N m).2 3 ≤ 150 := hIm.1.2.2.2.2.2.1
        refine ⟨fun hc => ?_, fun _ => ⟨vp_in_nI (by omega) (by omega), ?_⟩⟩
        · rw [uv_at, if_neg (by omega), hV7, nI_leI (by omega) (by omega)] at hc; omega
        · rw [nI_clamp (by omega), gx_18, hs m (by omega) q]
          refine sp_has2 ?_
          rw [hIm.1.1 3 (by omega), hasI_t hlt (by omega), nI_clamp (by omega)]
          refine ⟨fun q => absurd q (by decide), fun _ => ⟨vp_in_nI (by omega) (by omega), ?_⟩⟩
          refine sp_ans41 hIm hlt ?_
          rw [uv_uv, ← gx_t q, nI_1]
          exact hi
      · rw [cf m q, gx_f q] at hi
        exact hi
  have k0 := key (N 3) 0 (by omega)
  rw [show gxF f A N 0 = (A, N) from rfl, c0] at k0
  dsimp only at k0
  rw [uv_same (hI.1.1 3 (by omega))] at k0
  exact ⟨_, k0⟩
