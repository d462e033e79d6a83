/-! THE CALLS: digest -/
def dF (f : Nat → Int32) : Nat → Int64 → Int64
  | 0, d => d
  | n + 1, d => dF f n d * 31 + (f n).toInt64
theorem dF_congr {f g : Nat → Int32} {n : Nat} {d : Int64} (h : ∀ j, j < n → f j = g j) : dF f n d = dF g n d := by
  induction n with
  | zero => rfl
  | succ n ih =>
    show dF f n d * 31 + (f n).toInt64 = dF g n d * 31 + (g n).toInt64
    rw [ih (fun j hj => h j (by omega)), h n (by omega)]
def gB (N : Nat → Nat) (A : SA) (i : Nat) : Int32 := bnV N A (i / 5) (i % 5)
def gD (A : SA) (i : Nat) : Int32 := A (4 + i % 5) (i / 5)
def gL (A : SA) (i : Nat) : Int32 := A (9 + i % 9) (i / 9)
theorem dF_s5 {f : Nat → Int32} {v : Int32} {j k : Nat} {d : Int64} (h : f (5 * j + k) = v) : dF f (5 * j + (k + 1)) d = dF f (5 * j + k) d * 31 + v.toInt64 := by
  show dF f (5 * j + k) d * 31 + (f (5 * j + k)).toInt64 = _
  rw [h]
theorem dF_s9 {f : Nat → Int32} {v : Int32} {j k : Nat} {d : Int64} (h : f (9 * j + k) = v) : dF f (9 * j + (k + 1)) d = dF f (9 * j + k) d * 31 + v.toInt64 := by
  show dF f (9 * j + k) d * 31 + (f (9 * j + k)).toInt64 = _
  rw [h]
theorem gB_at {N : Nat → Nat} {A : SA} {j k : Nat} (hk : k < 5) : gB N A (5 * j + k) = bnV N A j k := by
  unfold gB
  rw [show (5 * j + k) / 5 = j by omega, show (5 * j + k) % 5 = k by omega]
theorem gD_at {A : SA} {j k : Nat} (hk : k < 5) : gD A (5 * j + k) = A (4 + k) j := by
  unfold gD
  rw [show (5 * j + k) / 5 = j by omega, show (5 * j + k) % 5 = k by omega]
theorem gL_at {A : SA} {j k : Nat} (hk : k < 9) : gL A (9 * j + k) = A (9 + k) j := by
  unfold gL
  rw [show (9 * j + k) / 9 = j by omega, show (9 * j + k) % 9 = k by omega]
theorem sp_digT {N : Nat → Nat} {A : SA} {V : SV} {d : Int64} {Q : Int64 → SA → SV → Prop} (hI : IV N A V) (h : Q (dF (A 0) (N 0) d) A V) : wpX4_digestFrom A V d Q := by
  have n0 : N 0 ≤ 30 := hI.1.2.2.1
  have v0 := hI.v 0 (by omega)
  refine ⟨N 0 - 0 + 1, ?_⟩
  refine up_loop (P := fun f j => wl_X4_digestFrom_5 Q f A V (dF (A 0) j d) (nI j)) (fun f => ?_) (fun f j hj ih => ?_) 0 (Nat.zero_le _)
  · refine ⟨fun _ => h, fun q => absurd ?_ q⟩
    rw [v0]; exact Int32.le_refl _
  · refine ⟨fun q => ?_, fun _ => ⟨vp_in_nI (by omega) (by omega), ?_⟩⟩
    · rw [v0] at q
      have := (nI_leI (by omega) (by omega)).mp q
      omega
    · rw [nI_clamp (by omega), nI_1]
      exact ih
theorem sp_digD {N : Nat → Nat} {A : SA} {V : SV} {d : Int64} {Q : Int64 → SA → SV → Prop} (hI : IV N A V) (h : Q (dF (gD A) (5 * N 2) d) A V) : wpX1_digestFrom A V d Q := by
  have n2 := hI.n2
  have v2 := hI.v 2 (by omega)
  refine ⟨N 2 - 0 + 1, ?_⟩
  refine up_loop (P := fun f j => wl_X1_digestFrom_5 Q f A V (dF (gD A) (5 * j) d) (nI j)) (fun f => ?_) (fun f j hj ih => ?_) 0 (Nat.zero_le _)
  · refine ⟨fun _ => h, fun q => absurd ?_ q⟩
    rw [v2]; exact Int32.le_refl _
  · refine ⟨fun q => ?_, fun _ => ⟨5 - 0 + 1, ?_⟩⟩
    · rw [v2] at q
      have := (nI_leI (by omega) (by omega)).mp q
      omega
    · refine up_loop (P := fun f' k => wl_X1_digestFrom_17 Q (wl_X1_digestFrom_5 Q f) f' A V (dF (gD A) (5 * j + k) d) (nI j) (nI k)) (n := 5) (fun f' => ?_) (fun f' k hk ih2 => ?_) 0 (Nat.zero_le _)
      · refine ⟨fun _ => ?_, fun q => absurd (Int32.le_refl _) q⟩
        rw [nI_1]
        exact ih
      · refine ⟨fun q => ?_, fun _ => sp_fact1 v2 n2 hj hk ?_⟩
        · have := (nI_leI (a := 5) (by omega) (by omega)).mp q
          omega
        · rw [dF_s5 (gD_at hk)] at ih2
          rw [nI_1]
          exact ih2
theorem sp_digL {N : Nat → Nat} {A : SA} {V : SV} {d : Int64} {Q : Int64 → SA → SV → Prop} (hI : IV N A V) (h : Q (dF (gL A) (9 * N 3) d) A V) : wpX2_digestFrom A V d Q := by
  have n3 := hI.n3
  have v3 := hI.v 3 (by omega)
  refine ⟨N 3 - 0 + 1, ?_⟩
  refine up_loop (P := fun f j => wl_X2_digestFrom_5 Q f A V (dF (gL A) (9 * j) d) (nI j)) (fun f => ?_) (fun f j hj ih => ?_) 0 (Nat.zero_le _)
  · refine ⟨fun _ => h, fun q => absurd ?_ q⟩
    rw [v3]; exact Int32.le_refl _
  · refine ⟨fun q => ?_, fun _ => ⟨9 - 0 + 1, ?_⟩⟩
    · rw [v3] at q
      have := (nI_leI (by omega) (by omega)).mp q
      omega
    · refine up_loop (P := fun f' k => wl_X2_digestFrom_17 Q (wl_X2_digestFrom_5 Q f) f' A V (dF (gL A) (9 * j + k) d) (nI j) (nI k)) (n := 9) (fun f' => ?_) (fun f' k hk ih2 => ?_) 0 (Nat.zero_le _)
      · refine ⟨fun _ => ?_, fun q => absurd (Int32.le_refl _) q⟩
        rw [nI_1]
        exact ih
      · refine ⟨fun q => ?_, fun _ => sp_fact2 v3 n3 hj hk ?_⟩
        · have := (nI_leI (a := 9) (by omega) (by omega)).mp q
          omega
        · rw [dF_s9 (gL_at hk)] at ih2
          rw [nI_1]
          exact ih2
def dgV (N : Nat → Nat) (A : SA) : Int64 := dF (gL A) (9 * N 3) (dF (gD A) (5 * N 2) (dF (gB N A) (5 * N 1) (dF (A 0) (N 0) (dF (ctV N A) 13 479))))
theorem sp_digC {N : Nat → Nat} {A : SA} {V : SV} {A2 : SA} {V2 : SV} {Q : Int64 → SA → SV → SA → SV → Prop} (hI : IV N A V) (h6 : N 4 < 2 ^ 31) (h : Q (dgV N A) A V A2 V2) : wpX5_digest A V A2 V2 Q := by
  have n1 := hI.n1
  have v1 := hI.v 1 (by omega)
  refine ⟨13 - 0 + 1, ?_⟩
  refine up_loop (P := fun f j => wl_X5_digest_6 Q f A V A2 V2 (dF (ctV N A) j 479) (nI j)) (n := 13) (fun f => ?_) (fun f j hj ih => ?_) 0 (Nat.zero_le _)
  · refine ⟨fun _ => sp_digT hI ⟨N 1 - 0 + 1, ?_⟩, fun q => absurd (Int32.le_refl _) q⟩
    refine up_loop (P := fun f j => wl_X5_digest_48 Q f A V A2 V2 (dF (gB N A) (5 * j) (dF (A 0) (N 0) (dF (ctV N A) 13 479))) (nI j)) (fun f => ?_) (fun f j hj ih => ?_) 0 (Nat.zero_le _)
    · refine ⟨fun _ => sp_digD hI (sp_digL hI h), fun q => absurd ?_ q⟩
      rw [v1]; exact Int32.le_refl _
    · refine ⟨fun q => ?_, fun _ => ⟨5 - 0 + 1, ?_⟩⟩
      · rw [v1] at q
        have := (nI_leI (by omega) (by omega)).mp q
        omega
      · refine up_loop (P := fun f' k => wl_X5_digest_65 Q (wl_X5_digest_48 Q f) f' A V A2 V2 (dF (gB N A) (5 * j + k) (dF (A 0) (N 0) (dF (ctV N A) 13 479))) (nI j) (nI k)) (n := 5) (fun f' => ?_) (fun f' k hk ih2 => ?_) 0 (Nat.zero_le _)
        · refine ⟨fun _ => ?_, fun q => absurd (Int32.le_refl _) q⟩
          rw [nI_1]
          exact ih
        · refine ⟨fun q => ?_, fun _ => sp_binFact hI hj hk h6 ?_⟩
          · have := (nI_leI (a := 5) (by omega) (by omega)).mp q
            omega
          · rw [dF_s5 (gB_at hk)] at ih2
            rw [nI_1]
            exact ih2
  · refine ⟨fun q => ?_, fun _ => sp_total hI hj ?_⟩
    · have := (nI_leI (a := 13) (by omega) (by omega)).mp q
      omega
    · rw [nI_1]
      exact ih
theorem nI_90 (n : Nat) : (9 : Int32) * nI n = nI (9 * n) := by rw [← Nat.add_zero (9 * n), ← nI_9, show nI 0 = 0 from rfl, Int32.add_zero]
theorem dg_146 {N : Nat → Nat} {A : SA} {V : SV} {AM : SA} {VM1 : SV} {d : Int64} {Q : Int64 → SA → SV → Prop} (hI : IV N A V) (hM1 : MR N A AM VM1) (h : Q (dF (gL A) (9 * N 3) d) AM VM1) : ∃ n, wl_X6_digest_146 Q n AM VM1 d 0 := by
  have n3 := hI.n3
  have e5 : (9 : Int32) * VM1 5 = nI (9 * N 3) := by rw [hM1.2.2.2.2.1, nI_90]
  have eL : dF (AM 3) (9 * N 3) d = dF (gL A) (9 * N 3) d := dF_congr (fun j hj => by
    have := hM1.row (l := j / 9) (k := j % 9) (by omega) (by omega)
    rw [show 9 * (j / 9) + j % 9 = j by omega] at this
    exact this)
  rw [← eL] at h
  refine ⟨9 * N 3 - 0 + 1, ?_⟩
  refine up_loop (P := fun f j => wl_X6_digest_146 Q f AM VM1 (dF (AM 3) j d) (nI j)) (fun f => ?_) (fun f j hj ih => ?_) 0 (Nat.zero_le _)
  · refine ⟨fun _ => h, fun q => absurd ?_ q⟩
    rw [e5]; exact Int32.le_refl _
  · refine ⟨fun q => ?_, fun _ => ⟨vp_in_nI (by omega) (by omega), ?_⟩⟩
    · rw [e5] at q
      have := (nI_leI (by omega) (by omega)).mp q
      omega
    · rw [nI_clamp (by omega), nI_1]
      exact ih
theorem dg_114 {N : Nat → Nat} {A : SA} {V : SV} {AM : SA} {VM1 : SV} {d : Int64} {Q : Int64 → SA → SV → Prop} (hI : IV N A V) (hM1 : MR N A AM VM1) (h : Q (dF (gL A) (9 * N 3) (dF (gD A) (5 * N 2) d)) AM VM1) : ∃ n, wl_X6_digest_114 Q n AM VM1 d 0 := by
  have n2 := hI.n2
  have e4 : (5 : Int32) * VM1 4 = nI (5 * N 2) := by rw [hM1.2.2.2.1, nI_50]
  have eD : dF (AM 2) (5 * N 2) d = dF (gD A) (5 * N 2) d := dF_congr (fun j hj => by
    have := hM1.dro (o := j / 5) (k := j % 5) (by omega) (by omega)
    rw [show 5 * (j / 5) + j % 5 = j by omega] at this
    exact this)
  rw [← eD] at h
  refine ⟨5 * N 2 - 0 + 1, ?_⟩
  refine up_loop (P := fun f j => wl_X6_digest_114 Q f AM VM1 (dF (AM 2) j d) (nI j)) (fun f => ?_) (fun f j hj ih => ?_) 0 (Nat.zero_le _)
  · refine ⟨fun _ => dg_146 hI hM1 h, fun q => absurd ?_ q⟩
    rw [e4]; exact Int32.le_refl _
  · refine ⟨fun q => ?_, fun _ => ⟨vp_in_nI (by omega) (by omega), ?_⟩⟩
    · rw [e4] at q
      have := (nI_leI (by omega) (by omega)).mp q
      omega
    · rw [nI_clamp (by omega), nI_1]
      exact ih
theorem dg_68 {N : Nat → Nat} {A : SA} {V : SV} {AM : SA} {VM1 : SV} {d : Int64} {Q : Int64 → SA → SV → Prop} (hI : IV N A V) (hM1 : MR N A AM VM1) (h6 : N 4 < 2 ^ 31) (h : Q (dF (gL A) (9 * N 3) (dF (gD A) (5 * N 2) (dF (gB N A) (5 * N 1) d))) AM VM1) : ∃ n, wl_X6_digest_68 Q n AM VM1 d 0 := by
  have n1 := hI.n1
  have m3 := hM1.2.2.1
  refine ⟨N 1 - 0 + 1, ?_⟩
  refine up_loop (P := fun f j => wl_X6_digest_68 Q f AM VM1 (dF (gB N A) (5 * j) d) (nI j)) (fun f => ?_) (fun f j hj ih => ?_) 0 (Nat.zero_le _)
  · refine ⟨fun _ => dg_114 hI hM1 h, fun q => absurd ?_ q⟩
    rw [m3]; exact Int32.le_refl _
  · refine ⟨fun q => ?_, fun _ => ⟨5 - 0 + 1, ?_⟩⟩
    · rw [m3] at q
      have := (nI_leI (by omega) (by omega)).mp q
      omega
    · refine up_loop (P := fun f' k => wl_X6_digest_79 Q (wl_X6_digest_68 Q f) f' AM VM1 (dF (gB N A) (5 * j + k) d) (nI j) (nI k)) (n := 5) (fun f' => ?_) (fun f' k hk ih2 => ?_) 0 (Nat.zero_le _)
      · refine ⟨fun _ => ?_, fun q => absurd (Int32.le_refl _) q⟩
        rw [nI_1]
        exact ih
      · refine ⟨fun q => ?_, fun _ => sp_binTold hI hM1 hj hk h6 ?_⟩
        · have := (nI_leI (a := 5) (by omega) (by omega)).mp q
          omega
        · rw [dF_s5 (gB_at hk)] at ih2
          rw [nI_1]
          exact ih2
theorem dg_38 {N : Nat → Nat} {A : SA} {V : SV} {AM : SA} {VM1 : SV} {d : Int64} {Q : Int64 → SA → SV → Prop} (hI : IV N A V) (hM1 : MR N A AM VM1) (h6 : N 4 < 2 ^ 31) (h : Q (dF (gL A) (9 * N 3) (dF (gD A) (5 * N 2) (dF (gB N A) (5 * N 1) (dF (A 0) (N 0) d)))) AM VM1) : ∃ n, wl_X6_digest_38 Q n AM VM1 d 0 := by
  have n0 : N 0 ≤ 30 := hI.1.2.2.1
  have m2 := hM1.2.1
  have eT : dF (AM 0) (N 0) d = dF (A 0) (N 0) d := dF_congr (fun j hj => hM1.td hj)
  rw [← eT] at h
  refine ⟨N 0 - 0 + 1, ?_⟩
  refine up_loop (P := fun f j => wl_X6_digest_38 Q f AM VM1 (dF (AM 0) j d) (nI j)) (fun f => ?_) (fun f j hj ih => ?_) 0 (Nat.zero_le _)
  · refine ⟨fun _ => dg_68 hI hM1 h6 h, fun q => absurd ?_ q⟩
    rw [m2]; exact Int32.le_refl _
  · refine ⟨fun q => ?_, fun _ => ⟨vp_in_nI (by omega) (by omega), ?_⟩⟩
    · rw [m2] at q
      have := (nI_leI (by omega) (by omega)).mp q
      omega
    · rw [nI_clamp (by omega), nI_1]
      exact ih
theorem dg_11 {N : Nat → Nat} {A : SA} {V : SV} {AM : SA} {VM1 : SV} {d : Int64} {Q : Int64 → SA → SV → Prop} (hI : IV N A V) (hM1 : MR N A AM VM1) (h6 : N 4 < 2 ^ 31) (h : Q (dF (gL A) (9 * N 3) (dF (gD A) (5 * N 2) (dF (gB N A) (5 * N 1) (dF (A 0) (N 0) (dF (ctV N A) 13 d))))) AM VM1) : ∃ n, wl_X6_digest_11 Q n AM VM1 d 0 := by
  refine ⟨13 - 0 + 1, ?_⟩
  refine up_loop (P := fun f j => wl_X6_digest_11 Q f AM VM1 (dF (ctV N A) j d) (nI j)) (n := 13) (fun f => ?_) (fun f j hj ih => ?_) 0 (Nat.zero_le _)
  · exact ⟨fun _ => dg_38 hI hM1 h6 h, fun q => absurd (Int32.le_refl _) q⟩
  · refine ⟨fun q => ?_, fun _ => sp_counted hI hM1 hj ?_⟩
    · have := (nI_leI (a := 13) (by omega) (by omega)).mp q
      omega
    · rw [nI_1]
      exact ih
theorem sp_digM {N : Nat → Nat} {A : SA} {V : SV} {AM : SA} {VM : SV} {Q : Int64 → SA → SV → Prop} (hI : IV N A V) (hM : MR N A AM VM) (h6 : N 4 < 2 ^ 31) (h : ∀ VM1, MR N A AM VM1 → Q (dgV N A) AM VM1) : wpX6_digest AM VM Q :=
  m_go hM (fun VM1 hM1 z1 => dg_11 hI hM1 h6 (h VM1 hM1))
theorem st_digest {t : Nat} {N : Nat → Nat} {A : SA} {V : SV} {A2 : SA} {V2 : SV} {AM : SA} {VM : SV} {o : Nat → Int64} {a1 a2 a3 : Int32} (hI : IV N A V) (hM : MR N A AM VM) (h4 : N 4 ≤ 200 * t) (h6 : N 4 < 2 ^ 31) : LC_digest (INV t) A V A2 V2 o AM VM a1 a2 a3 := by
  unfold LC_digest
  exact sp_digC hI h6 (sp_digM hI hM h6 (fun VM1 m => ⟨rfl, N, hI, m, h4⟩))
