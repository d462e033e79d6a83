/-! HOURS, both sides -/
def hsF (A : SA) (N : Nat → Nat) : Nat → SA × (Nat → Nat)
  | 0 => (A, N)
  | i + 1 => (hrD (hsF A N i).1 (hsF A N i).2, hrN (hsF A N i).1 (hsF A N i).2)
def dnF (A : SA) (N : Nat → Nat) : Nat → Nat
  | 0 => 0
  | i + 1 => dnF A N i + (hrW (hsF A N i).1 (hsF A N i).2).2
theorem hr_N4 {A : SA} {N : Nat → Nat} : hrN A N 4 = N 4 + 1 := by
  show (hrG A N).2 4 + 1 = N 4 + 1
  rw [show (hrG A N).2 4 = N 4 from gx_ne (N 3) 4 (by omega)]
theorem hr_N3 {A : SA} {N : Nat → Nat} : N 3 ≤ hrN A N 3 := gx_ge (N 3)
theorem hr_IV {N : Nat → Nat} {A : SA} {V : SV} (h : IV N A V) (h4 : N 4 < 2 ^ 20) : ∃ V', IV (hrN A N) (hrD A N) V' :=
  ⟨_, (hr_IVs h).2.2.2.2.1.hour (by rw [show (hrG A N).2 4 = N 4 from gx_ne (N 3) 4 (by omega)]; exact h4)⟩
theorem hs_N4 {A : SA} {N : Nat → Nat} : ∀ i, (hsF A N i).2 4 = N 4 + i := by
  intro i
  induction i with
  | zero => rfl
  | succ i ih =>
    show hrN (hsF A N i).1 (hsF A N i).2 4 = N 4 + (i + 1)
    rw [hr_N4, ih]; rfl
theorem hs_N3 {A : SA} {N : Nat → Nat} (i : Nat) : ∀ d, (hsF A N i).2 3 ≤ (hsF A N (i + d)).2 3 := by
  intro d
  induction d with
  | zero => exact Nat.le_refl _
  | succ d ih => exact Nat.le_trans ih hr_N3
theorem hs_IV {N : Nat → Nat} {A : SA} {V : SV} (h : IV N A V) : ∀ i, N 4 + i ≤ 2 ^ 20 → ∃ V', IV (hsF A N i).2 (hsF A N i).1 V' := by
  intro i
  induction i with
  | zero => exact fun _ => ⟨V, h⟩
  | succ i ih =>
    intro hi
    obtain ⟨V1, h1⟩ := ih (by omega)
    exact hr_IV h1 (by rw [hs_N4]; omega)
theorem sp_letGoBy {N : Nat → Nat} {A : SA} {V : SV} {k : Nat} {Q : Int32 → SA → SV → Prop} (hI : IV N A V) (hk : k ≤ 200) (h4 : N 4 + k ≤ 2 ^ 20) (h : ∀ V', IV (hsF A N k).2 (hsF A N k).1 V' → Q (nI (dnF A N k)) (hsF A N k).1 V') : wpX3_letGoBy A V (nI k) Q := by
  refine ⟨k - 0 + 1, ?_⟩
  refine up_loop (P := fun f j => ∀ V', IV (hsF A N j).2 (hsF A N j).1 V' → wl_X3_letGoBy_4 Q f (hsF A N j).1 V' (nI k) (nI (dnF A N j)) (nI j)) (fun f => ?_) (fun f j hj ih => ?_) 0 (Nat.zero_le _) V hI
  · intro V' i1
    exact ⟨fun _ => h V' i1, fun hc => absurd (Int32.le_refl _) hc⟩
  · intro V' i1
    refine ⟨fun hc => ?_, fun _ => sp_hour i1 (by rw [hs_N4]; omega) (fun V2 i2 e7 => ?_)⟩
    · rw [nI_leI (by omega) (by omega)] at hc; omega
    · rw [e7, nI_add, nI_1]
      exact ih V2 i2
