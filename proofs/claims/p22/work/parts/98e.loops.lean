/-! THE LAW'S LOOPS BEHIND AN HOUR -/
section LPS
variable {cl : Int32 → Int32} {hB hD : Nat → Int32} {K46 : Nat → SA → SV → SA → SV → SA → Int32 → Int32 → Prop} {k0 : Nat} {N : Nat → Nat} {A : SA} {V0 V : SV} {A2 : SA} {V2 : SV} {x7 x11 : Int32}
theorem sp5_letterV {N : Nat → Nat} {A : SA} {V : SV} {Q : Int32 → SA → SV → SA → SV → Prop} {j k : Nat} {v : Int32} (hI : IV N A V) (hj : j < N 3) (hk : k < 9) (hv : A (9 + k) j = v) (h : Q v A V A2 V2) : wpX5_letter A V A2 V2 (nI j) (nI k) Q := sp5_letter hI hj hk (by rw [hv]; exact h)
theorem sp5_drownedV {N : Nat → Nat} {A : SA} {V : SV} {Q : Int32 → SA → SV → SA → SV → Prop} {j k : Nat} {v : Int32} (hI : IV N A V) (hj : j < N 2) (hk : k < 5) (hv : A (4 + k) j = v) (h : Q v A V A2 V2) : wpX5_drowned A V A2 V2 (nI j) (nI k) Q := sp5_drowned hI hj hk (by rw [hv]; exact h)
/-- the law's arrays, when j letters have been looked at -/
def PL (N : Nat → Nat) (A : SA) (L0 : SA) (j : Nat) (L : SA) : Prop :=
  (∀ i, L 0 i = L0 0 i) ∧ (∀ i, L 1 i = L0 1 i) ∧ (∀ i, L 3 i = L0 3 i) ∧ (∀ s, s < 6 → L 4 s = nI (cnt (fun l => decide (hrD A N 12 l = nI s)) j)) ∧ (∀ i, i < j → i < N 3 → L 2 i = covI (hrT A N) A i) ∧ (∀ i, j ≤ i → L 2 i = L0 2 i)
theorem lp207 {L0 : SA} (hI : IV N A V0) (hI' : IV (hrN A N) (hrD A N) V) (eB : ∀ b, b < N 1 → hB b = A 1 b) (eD : ∀ o, o < N 2 → hD o = A 4 o) (l0 : ∀ i, i < N 3 → L0 0 i = A 12 i) (l1 : ∀ i, i < N 3 → L0 1 i = A 13 i) (l2 : ∀ i, i < N 3 → A 12 i = 1 → L0 2 i = A 15 i) (l3 : ∀ i, i < N 3 → L0 3 i = A 14 i) (l4 : ∀ s, L0 4 s = 0)
    (h : ∀ L, PL N A L0 (hrN A N 3) L → ∃ n686, wl_L_law_686 cl (N 1) (N 2) hB hD K46 n686 k0 (hrD A N) V A2 V2 L (nI (N 3)) x7 x11 (nI (hrN A N 3)) 0 0 0 0) : ∃ n207, wl_L_law_207 cl (N 1) (N 2) hB hD K46 n207 k0 (hrD A N) V A2 V2 L0 (nI (N 3)) x7 (hrT A N) x11 (nI (hrN A N 3)) 0 := by
  have n2 := hI.n2
  have n3 := hI.n3
  have m3 := hI'.n3
  have e2 : hrN A N 2 = N 2 := gx_ne (N 3) 2 (by omega)
  refine ⟨hrN A N 3 - 0 + 1, ?_⟩
  refine up_loop (P := fun f j => ∀ L, PL N A L0 j L → wl_L_law_207 cl (N 1) (N 2) hB hD K46 f k0 (hrD A N) V A2 V2 L (nI (N 3)) x7 (hrT A N) x11 (nI (hrN A N 3)) (nI j)) (fun f L hP => ?_) (fun f j hj ih L hP => ?_) 0 (Nat.zero_le _) L0 ⟨fun _ => rfl, fun _ => rfl, fun _ => rfl, fun s _ => l4 s, fun i hi => absurd hi (by omega), fun _ _ => rfl⟩
  · exact ⟨fun _ => h L hP, fun c => absurd (Int32.le_refl _) c⟩
  · obtain ⟨p0, p1, p3, p4, p2, p5⟩ := hP
    obtain ⟨_, _, _, ⟨z, hz, b12⟩, _⟩ := hI'.2.2.2 j hj
    have hin : vp_in (hrD A N 12 j) 6 := by rw [b12]; exact vp_in_nI (by omega) (by omega)
    refine ⟨fun c => ?_, fun _ => sp5_letter (k := 3) hI' hj (by omega) (sp5_letter (k := 4) hI' hj (by omega) ⟨hin, hin, fun L1 e1 => ?_⟩)⟩
    · rw [nI_leI (by omega) (by omega)] at c; omega
    have e1 : L1 = up L 4 z (L 4 z + 1) := by
      have h9 : hrD A N (9 + 3) j = nI z := b12
      rw [e1, h9, nI_clamp (by omega)]
    have r : ∀ q i, q ≠ 4 → L1 q i = L q i := fun q i hq => by rw [e1]; exact up_ne (Or.inl hq)
    have q4 : ∀ s, s < 6 → L1 4 s = nI (cnt (fun l => decide (hrD A N 12 l = nI s)) (j + 1)) := fun s hs => by
      rw [e1]
      by_cases e : s = z
      · subst e
        rw [up_eq, p4 s hs, nI_1, cnt_s1 (decide_eq_true b12)]
      · have hne : ¬ hrD A N 12 j = nI s := fun q => by
          rw [b12] at q
          exact e ((nI_eq (by omega) (by omega)).mp q).symm
        rw [up_ne (Or.inr e), p4 s hs, cnt_s0 (decide_eq_false hne)]
    have next : ∀ L', (∀ q i, q ≠ 2 → L' q i = L1 q i) → (∀ i, i ≠ j → L' 2 i = L1 2 i) → (j < N 3 → L' 2 j = covI (hrT A N) A j) → wl_L_law_207 cl (N 1) (N 2) hB hD K46 f k0 (hrD A N) V A2 V2 L' (nI (N 3)) x7 (hrT A N) x11 (nI (hrN A N 3)) (nI (j + 1)) := fun L' f1 f2 f3 => by
      refine ih L' ⟨fun i => ?_, fun i => ?_, fun i => ?_, fun s hs => ?_, fun i h1 h2 => ?_, fun i h1 => ?_⟩
      · rw [f1 0 i (by omega), r 0 i (by omega)]; exact p0 i
      · rw [f1 1 i (by omega), r 1 i (by omega)]; exact p1 i
      · rw [f1 3 i (by omega), r 3 i (by omega)]; exact p3 i
      · rw [f1 4 s (by omega)]; exact q4 s hs
      · by_cases e : i = j
        · subst e; exact f3 h2
        · rw [f2 i e, r 2 i (by omega)]; exact p2 i (by omega) h2
      · rw [f2 i (by omega), r 2 i (by omega)]; exact p5 i (by omega)
    refine ⟨fun q => ?_, fun q => ?_⟩
    · rw [nI_ltI (by omega) (by omega)] at q
      have h10 : L1 0 j = A 12 j := by rw [r 0 j (by omega), p0]; exact l0 j q
      have g := ckKnown (cl := cl) (K46 := K46) (k0 := k0) (A2 := A2) (V2 := V2) (x7 := x7) (x11 := x11) (x12 := nI (hrN A N 3)) (K207 := wl_L_law_207 cl (N 1) (N 2) hB hD K46 f) (L := L1) hI hI' q hj (hr_at q) (by rw [r 1 j (by omega), p1]; exact l1 j q) (fun w => by rw [r 2 j (by omega), p5 j (Nat.le_refl _)]; exact l2 j q w) (by rw [r 3 j (by omega), p3]; exact l3 j q) eB eD (next _ (fun q i hq => up_ne (Or.inl hq)) (fun i hi => up_ne (Or.inr hi)) (fun _ => up_eq))
      have hrt := (hr_at (A := A) q).rt
      rw [nI_clamp (by omega), h10]
      refine ⟨vp_in_nI (by omega) (by omega), fun _ => g, fun w => ⟨fun w2 => ?_, fun w2 => ⟨fun _ => g, fun w3 => ?_⟩⟩⟩
      · rcases hrt with e | ⟨e, _⟩ | e
        · exact absurd e w
        · exact absurd e w2
        · exact ck375 e g
      · rcases hrt with e | ⟨_, e⟩ | e
        · exact absurd e w
        · exact absurd e w3
        · exact ck375 e g
    · rw [nI_ltI (by omega) (by omega)] at q
      obtain ⟨b4, l, hl, hf, b17, b9, b16⟩ := hr_new (A := A) (k := j) (by omega) hj
      obtain ⟨⟨o, ho, a9⟩, _⟩ := hI.2.2.2 l hl
      have b9 : hrD A N 9 j = nI o := by rw [b9]; exact a9
      have b16 : hrD A N 16 j = A 6 o := by rw [b16, a9, nI_clamp (by omega)]
      have b2 : hrD A N 12 l = 2 := ((hr_flg (A := A) hl).mp hf).1
      have b6 : hrD A N 6 o = A 6 o := hr_fr (by omega)
      have hlM : l < hrN A N 3 := by omega
      have c309 : wb_L_law_309 cl (N 1) (N 2) hB hD K46 (wl_L_law_207 cl (N 1) (N 2) hB hD K46 f) k0 (hrD A N) V A2 V2 L1 (nI (N 3)) x7 (hrT A N) x11 (nI (hrN A N 3)) (nI j) := by
        unfold wb_L_law_309
        refine sp5_letterV (k := 8) hI' hj (by omega) b17 (sp5_letterV (k := 3) hI' hlM (by omega) b2 ⟨fun w => absurd rfl w, fun _ => sp5_letterV (k := 7) hI' hj (by omega) b16 (sp5_letterV (k := 0) hI' hj (by omega) b9 (sp5_drownedV (k := 2) hI' (by omega) (by omega) b6 ⟨fun _ => ?_, fun w => absurd rfl w⟩))⟩)
        rw [nI_1]
        exact next _ (fun _ _ _ => rfl) (fun _ _ => rfl) (fun w => absurd w (by omega))
      refine ⟨fun w => absurd b4 w, fun _ => sp5_letterV (k := 8) hI' hj (by omega) b17 ⟨fun w => absurd w (nI_nn (by omega)), fun _ => sp5_letterV (k := 8) hI' hj (by omega) b17 ⟨fun w => ?_, fun _ => sp5_letterV (k := 8) hI' hj (by omega) b17 ⟨vp_in_nI (by omega) (by omega), fun _ => c309, fun _ => sp5_letterV (k := 8) hI' hj (by omega) b17 (sp5_letterV (k := 3) hI' hlM (by omega) b2 ⟨fun w => absurd rfl w, fun _ => c309⟩)⟩⟩⟩⟩
      rw [nI_leI (by omega) (by omega)] at w
      omega
theorem lp686 {L : SA} (hI : IV N A V0) (hI' : IV (hrN A N) (hrD A N) V) (l0 : ∀ i, i < N 3 → L 0 i = A 12 i)
    (h : ∃ n731, wl_L_law_731 cl (N 1) (N 2) hB hD K46 n731 k0 (hrD A N) V A2 V2 L (nI (N 3)) x7 x11 (nI (hrN A N 3)) 0 0 (nI (hrW A N).2) 0) : ∃ n686, wl_L_law_686 cl (N 1) (N 2) hB hD K46 n686 k0 (hrD A N) V A2 V2 L (nI (N 3)) x7 x11 (nI (hrN A N 3)) 0 0 0 0 := by
  have n3 := hI.n3
  have g0 : N 3 ≤ hrN A N 3 := hr_N3
  rw [hr_down] at h
  refine ⟨N 3 - 0 + 1, ?_⟩
  refine up_loop (P := fun f j => wl_L_law_686 cl (N 1) (N 2) hB hD K46 f k0 (hrD A N) V A2 V2 L (nI (N 3)) x7 x11 (nI (hrN A N 3)) 0 0 (nI (cnt (fun l => decide (hrD A N 12 l = 2 ∧ ¬ A 12 l = 2)) j)) (nI j)) (fun f => ?_) (fun f j hj ih => ?_) 0 (Nat.zero_le _)
  · exact ⟨fun _ => h, fun c => absurd (Int32.le_refl _) c⟩
  · refine ⟨fun c => ?_, fun _ => sp5_letter (k := 3) hI' (by omega) (by omega) ⟨fun w => ?_, fun w => ⟨vp_in_nI (by omega) (by omega), fun w2 => ?_, fun w2 => ?_⟩⟩⟩
    · rw [nI_leI (by omega) (by omega)] at c; omega
    · rw [cnt_s0 (decide_eq_false (fun q => w q.1))] at ih
      rw [nI_1, Int32.add_zero]; exact ih
    · rw [nI_clamp (by omega), l0 j hj] at w2
      rw [cnt_s0 (decide_eq_false (fun q => q.2 w2))] at ih
      rw [nI_1, Int32.add_zero]; exact ih
    · rw [nI_clamp (by omega), l0 j hj] at w2
      rw [cnt_s1 (decide_eq_true ⟨w, w2⟩)] at ih
      rw [nI_1, nI_1]; exact ih
end LPS
