/-! THE LAW'S LOOPS over the drowned, the states, the bins; and what it keeps -/
theorem ctV_s {N : Nat → Nat} {A : SA} {j : Nat} (h : j < 6) : ctV N A (4 + j) = nI (cnt (fun l => decide (A 12 l = nI j)) (N 3)) := by
  unfold ctV
  rw [if_neg (by omega), if_neg (by omega), if_neg (by omega), if_neg (by omega), if_neg (by omega), if_neg (by omega), if_neg (by omega), Nat.add_sub_cancel_left]
theorem ctV_3 {N : Nat → Nat} {A : SA} : ctV N A 3 = nI (N 3) := by
  unfold ctV
  rw [if_neg (by omega), if_neg (by omega), if_neg (by omega), if_pos rfl]
theorem ctV_0 {N : Nat → Nat} {A : SA} : ctV N A 0 = nI (N 4) := by
  unfold ctV
  rw [if_pos rfl]
theorem sumN_0 {n : Nat} : sumN (fun _ => 0) n = 0 := by
  induction n with
  | zero => rfl
  | succ n ih => unfold sumN; rw [ih]
theorem sumN_add {f g h : Nat → Nat} {n : Nat} (e : ∀ j, j < n → h j = f j + g j) : sumN h n = sumN f n + sumN g n := by
  induction n with
  | zero => rfl
  | succ n ih =>
    unfold sumN
    have := ih (fun j hj => e j (by omega))
    have := e n (by omega)
    omega
theorem sumN_one {n o : Nat} (h : o < n) : sumN (fun b => if b = o then 1 else 0) n = 1 := by
  induction n with
  | zero => omega
  | succ n ih =>
    unfold sumN
    by_cases e : o = n
    · subst e
      rw [if_pos rfl, sumN_congr (g := fun _ => 0) (fun j hj => if_neg (by omega)), sumN_0]
    · rw [ih (by omega), if_neg (by omega)]
theorem sum_fil {A : SA} {nb : Nat} (hnb : nb < 100) : ∀ n, (∀ l, l < n → A 12 l = 1 → ∃ b, b < nb ∧ A 14 l = nI b) → sumN (fun b => fil n A b) nb = cnt (fun l => decide (A 12 l = 1)) n := by
  intro n
  induction n with
  | zero => intro _; exact sumN_0
  | succ n ih =>
    intro h
    have i1 := ih (fun l hl => h l (by omega))
    by_cases c : A 12 n = 1
    · obtain ⟨b0, hb0, e0⟩ := h n (by omega) c
      rw [cnt_s1 (decide_eq_true c), ← i1]
      have s1 := sumN_one hb0
      refine Eq.trans (sumN_add (f := fun b => fil n A b) (g := fun b => if b = b0 then 1 else 0) (fun b hb => ?_)) (by rw [s1])
      show fil (n + 1) A b = fil n A b + (if b = b0 then 1 else 0)
      unfold fil
      by_cases e : b = b0
      · rw [cnt_s1 (decide_eq_true ⟨c, by rw [e]; exact e0⟩), if_pos e]
      · have hne : ¬ (A 12 n = 1 ∧ A 14 n = nI b) := fun q => by
          have := (nI_eq (by omega) (by omega)).mp (e0.symm.trans q.2)
          omega
        rw [cnt_s0 (decide_eq_false hne), if_neg e]; rfl
    · rw [cnt_s0 (decide_eq_false c), ← i1]
      refine sumN_congr (fun b hb => ?_)
      show fil (n + 1) A b = fil n A b
      unfold fil
      exact cnt_s0 (decide_eq_false (fun q => c q.1))
section LP2
variable {cl : Int32 → Int32} {nB nD : Nat} {hB hD : Nat → Int32} {K46 : Nat → SA → SV → SA → SV → SA → Int32 → Int32 → Prop} {k0 : Nat} {M : Nat → Nat} {B : SA} {V : SV} {A2 : SA} {V2 : SV} {L : SA} {x6 x7 x11 x16 : Int32}
theorem lp731 (hI : IV M B V) (e2 : M 2 = nD) (hG : GI M B) (h : ∃ n858, wl_L_law_858 cl nB nD hB hD K46 n858 k0 B V A2 V2 L x6 x7 x11 (nI (M 3)) (nI (cnt (fun l => decide (B 12 l = 2)) (M 3))) (nI (cnt (fun l => decide (B 12 l = 4 ∨ B 12 l = 5)) (M 3))) x16 0) : ∃ n731, wl_L_law_731 cl nB nD hB hD K46 n731 k0 B V A2 V2 L x6 x7 x11 (nI (M 3)) 0 0 x16 0 := by
  obtain ⟨G, W, hr, sG, sW⟩ := hG
  have n2 := hI.n2
  have n3 := hI.n3
  subst e2
  rw [← sG, ← sW] at h
  have cG := cnt_le (fun l => decide (B 12 l = 2)) (M 3)
  refine ⟨M 2 - 0 + 1, ?_⟩
  refine up_loop (P := fun f j => wl_L_law_731 cl nB (M 2) hB hD K46 f k0 B V A2 V2 L x6 x7 x11 (nI (M 3)) (nI (sumN G j)) (nI (sumN W j)) x16 (nI j)) (fun f => ?_) (fun f j hj ih => ?_) 0 (Nat.zero_le _)
  · exact ⟨fun _ => h, fun c => absurd (Int32.le_refl _) c⟩
  · obtain ⟨p7, p8, n, p5, pn, q0, qn⟩ := hr j hj
    have gb : G j ≤ sumN G (M 2) := sumN_le hj
    have ih : wl_L_law_731 cl nB (M 2) hB hD K46 f k0 B V A2 V2 L x6 x7 x11 (nI (M 3)) (nI (sumN G j) + nI (G j)) (nI (sumN W j) + nI (W j)) x16 (nI j + 1) := by
      rw [nI_add, nI_add, nI_1]; exact ih
    have dv : 0 < n → nI (G j) / nI n = nI (G j / n) := fun hn => pk_div (by omega) hn (by omega)
    have wb : 0 < n → W j < 2 ^ 31 := fun hn => by
      have h1 := (qn hn).1
      have h2 := Nat.div_le_self (G j) n
      omega
    have db : G j / n < 2 ^ 31 := by
      have h2 := Nat.div_le_self (G j) n
      omega
    have g814 : wb_L_law_814 cl nB (M 2) hB hD K46 (wl_L_law_731 cl nB (M 2) hB hD K46 f) k0 B V A2 V2 L x6 x7 x11 (nI (M 3)) (nI (sumN G j) + nI (G j)) (nI (sumN W j) + nI (W j)) x16 (nI j) (nI n) := by
      unfold wb_L_law_814
      refine ⟨fun _ => ih, fun hn => ⟨fun _ => ih, fun h150 => ?_⟩⟩
      have hn : 0 < n := by
        rw [show (0 : Int32) = nI 0 from rfl, nI_leI (by omega) (by omega)] at hn
        omega
      refine sp5_drownedV (k := 4) hI hj (by omega) p8 (sp5_drownedV (k := 3) hI hj (by omega) p7 ⟨nI_ne0 hn (by omega), fun _ => ih, fun w => absurd ?_ w⟩)
      rw [dv hn, (qn hn).2 ?_]
      rw [show (150 : Int32) = nI 150 from rfl, nI_leI (by omega) (by omega)] at h150
      omega
    have g789 : wb_L_law_789 cl nB (M 2) hB hD K46 (wl_L_law_731 cl nB (M 2) hB hD K46 f) k0 B V A2 V2 L x6 x7 x11 (nI (M 3)) (nI (sumN G j) + nI (G j)) (nI (sumN W j) + nI (W j)) x16 (nI j) (nI n) := by
      unfold wb_L_law_789
      refine ⟨fun _ => g814, fun hn => ?_⟩
      have hn : 0 < n := by
        rw [show (0 : Int32) = nI 0 from rfl, nI_leI (by omega) (by omega)] at hn
        omega
      refine sp5_drownedV (k := 4) hI hj (by omega) p8 (sp5_drownedV (k := 3) hI hj (by omega) p7 ⟨nI_ne0 hn (by omega), fun w => ?_, fun _ => g814⟩)
      have h1 := (qn hn).1
      rw [dv hn, nI_ltI db (wb hn)] at w
      omega
    refine ⟨fun c => ?_, fun _ => sp5_drownedV (k := 1) hI hj (by omega) p5 (sp5_drownedV (k := 3) hI hj (by omega) p7 (sp5_drownedV (k := 4) hI hj (by omega) p8 ⟨fun _ => g789, fun w => sp5_drownedV (k := 4) hI hj (by omega) p8 ⟨fun z => ?_, fun _ => g789⟩⟩))⟩
    · rw [nI_leI (by omega) (by omega)] at c; omega
    · have hn : n = 0 := by
        rw [show (0 : Int32) = nI 0 from rfl, nI_eq (by omega) (by omega)] at w; exact w
      rw [q0 hn] at z
      exact absurd z (by decide)
theorem lp858 (hI : IV M B V) (h4 : x7 + 1 = nI (M 4)) (e16 : x16 = x11) (l4 : ∀ s, s < 6 → L 4 s = nI (cnt (fun l => decide (B 12 l = nI s)) (M 3))) (h : ∃ n939, wl_L_law_939 cl nB nD hB hD K46 n939 k0 B V A2 V2 L x6 x7 (nI (M 3)) 0 0) : ∃ n858, wl_L_law_858 cl nB nD hB hD K46 n858 k0 B V A2 V2 L x6 x7 x11 (nI (M 3)) (nI (cnt (fun l => decide (B 12 l = 2)) (M 3))) (nI (cnt (fun l => decide (B 12 l = 4 ∨ B 12 l = 5)) (M 3))) x16 0 := by
  have c45 : cnt (fun l => decide (B 12 l = 4 ∨ B 12 l = 5)) (M 3) = cnt (fun l => decide (B 12 l = 4)) (M 3) + cnt (fun l => decide (B 12 l = 5)) (M 3) := cnt_add (fun j _ => by
    by_cases a : B 12 j = 4
    · rw [a]; decide
    · by_cases b : B 12 j = 5
      · rw [b]; decide
      · simp [a, b])
  refine ⟨6 - 0 + 1, ?_⟩
  refine up_loop (P := fun f j => wl_L_law_858 cl nB nD hB hD K46 f k0 B V A2 V2 L x6 x7 x11 (nI (M 3)) (nI (cnt (fun l => decide (B 12 l = 2)) (M 3))) (nI (cnt (fun l => decide (B 12 l = 4 ∨ B 12 l = 5)) (M 3))) x16 (nI j)) (fun f => ?_) (fun f j hj ih => ?_) 0 (Nat.zero_le _)
  · refine ⟨fun _ => ⟨fun w => absurd e16 w, fun _ => ⟨vp_in_nI (n := 2) (by omega) (by omega), fun w => absurd (l4 2 (by omega)).symm w, fun _ => ⟨vp_in_nI (n := 4) (by omega) (by omega), vp_in_nI (n := 5) (by omega) (by omega), fun w => absurd ?_ w, fun _ => ?_⟩⟩⟩, fun c => absurd (Int32.le_refl _) c⟩
    · show nI _ = L 4 4 + L 4 5
      rw [l4 4 (by omega), l4 5 (by omega), nI_add, c45]; rfl
    · refine sp5_count (k := 0) hI (by omega) ?_
      rw [ctV_0]
      exact ⟨fun _ => h, fun w => absurd h4.symm w⟩
  · refine ⟨fun c => ?_, fun _ => ?_⟩
    · rw [show (6 : Int32) = nI 6 from rfl, nI_leI (by omega) (by omega)] at c; omega
    · rw [show (4 : Int32) + nI j = nI (4 + j) from nI_add 4 j]
      refine sp5_count (k := 4 + j) hI (by omega) ?_
      rw [ctV_s hj, nI_clamp (by omega), l4 j hj, nI_1]
      exact ⟨vp_in_nI (by omega) (by omega), fun _ => ih, fun w => absurd rfl w⟩
theorem sp5_binV {Q : Int32 → SA → SV → SA → SV → Prop} {j k : Nat} {v : Int32} (hI : IV M B V) (hj : j < M 1) (hk : k < 5) (h4 : M 4 < 2 ^ 31) (hv : bnV M B j k = v) (h : Q v B V A2 V2) : wpX5_bin B V A2 V2 (nI j) (nI k) Q := sp5_bin hI hj hk h4 (by rw [hv]; exact h)
theorem lp939 (hI : IV M B V) (e1 : M 1 = nB) (h4 : M 4 < 2 ^ 31) (l4 : L 4 1 = nI (cnt (fun l => decide (B 12 l = 1)) (M 3))) (h : ∃ n1000, wl_L_law_1000 cl nB nD hB hD K46 n1000 k0 B V A2 V2 L x6 x7 (nI (M 3)) 0) : ∃ n939, wl_L_law_939 cl nB nD hB hD K46 n939 k0 B V A2 V2 L x6 x7 (nI (M 3)) 0 0 := by
  have n1 := hI.n1
  have n3 := hI.n3
  subst e1
  have sf := sum_fil (A := B) (nb := M 1) (by omega) (M 3) (fun l hl hs => by
    rcases (hI.2.2.2 l hl).2.2.2.2.2.1 with ⟨_, q⟩ | ⟨q, _⟩
    · exact q
    · exact absurd hs q)
  refine ⟨M 1 - 0 + 1, ?_⟩
  refine up_loop (P := fun f j => wl_L_law_939 cl (M 1) nD hB hD K46 f k0 B V A2 V2 L x6 x7 (nI (M 3)) (nI (sumN (fun b => fil (M 3) B b) j)) (nI j)) (fun f => ?_) (fun f j hj ih => ?_) 0 (Nat.zero_le _)
  · refine ⟨fun _ => ⟨vp_in_nI (n := 1) (by omega) (by omega), fun _ => h, fun w => absurd ?_ w⟩, fun c => absurd (Int32.le_refl _) c⟩
    show nI _ = L 4 1
    rw [l4, sf]
  · obtain ⟨r, r1, r2, a2, hf, a3⟩ := hI.2.1 j hj
    have b2 : bnV M B j 2 = nI (fil (M 3) B j) := a3
    have b1 : bnV M B j 1 = nI r := a2
    refine ⟨fun c => ?_, fun _ => sp5_binV (k := 2) hI hj (by omega) h4 b2 (sp5_binV (k := 1) hI hj (by omega) h4 b1 ⟨fun _ => sp5_binV (k := 2) hI hj (by omega) h4 b2 ?_, fun w => absurd ?_ w⟩)⟩
    · rw [nI_leI (by omega) (by omega)] at c; omega
    · rw [nI_add, nI_1]; exact ih
    · rw [nI_leI (by omega) (by omega)]; exact hf
theorem lp1000 (hI : IV M B V) (h : ∀ L', (∀ i, i < M 3 → L' 0 i = B 12 i ∧ L' 1 i = B 13 i) → (∀ i, M 3 ≤ i → L' 0 i = L 0 i ∧ L' 1 i = L 1 i) → (∀ i, L' 2 i = L 2 i) → K46 k0 B V A2 V2 L' (nI (M 3)) (x7 + 1)) : ∃ n1000, wl_L_law_1000 cl nB nD hB hD K46 n1000 k0 B V A2 V2 L x6 x7 (nI (M 3)) 0 := by
  have n3 := hI.n3
  refine ⟨M 3 - 0 + 1, ?_⟩
  refine up_loop (P := fun f j => ∀ L', (∀ i, i < j → L' 0 i = B 12 i ∧ L' 1 i = B 13 i) → (∀ i, j ≤ i → L' 0 i = L 0 i ∧ L' 1 i = L 1 i) → (∀ i, L' 2 i = L 2 i) → wl_L_law_1000 cl nB nD hB hD K46 f k0 B V A2 V2 L' x6 x7 (nI (M 3)) (nI j)) (fun f L' p1 p2 p3 => ?_) (fun f j hj ih L' p1 p2 p3 => ?_) 0 (Nat.zero_le _) L (fun i hi => absurd hi (by omega)) (fun _ _ => ⟨rfl, rfl⟩) (fun _ => rfl)
  · exact ⟨fun _ => h L' p1 p2 p3, fun c => absurd (Int32.le_refl _) c⟩
  · have hin : vp_in (nI j) 150 := vp_in_nI (by omega) (by omega)
    refine ⟨fun c => ?_, fun _ => sp5_letter (k := 3) hI hj (by omega) ⟨hin, fun L1 e1 => sp5_letter (k := 4) hI hj (by omega) ⟨hin, fun L2 e2 => ?_⟩⟩⟩
    · rw [nI_leI (by omega) (by omega)] at c; omega
    · rw [nI_clamp (by omega)] at e1 e2
      rw [nI_1]
      refine ih L2 (fun i hi => ?_) (fun i hi => ?_) (fun i => ?_)
      · by_cases e : i = j
        · subst e
          refine ⟨?_, ?_⟩
          · rw [e2, up_ne (by omega), e1, up_eq]
          · rw [e2, up_eq]
        · rw [e2, up_ne (by omega), up_ne (by omega), e1, up_ne (by omega), up_ne (by omega)]
          exact p1 i (by omega)
      · rw [e2, up_ne (by omega), up_ne (by omega), e1, up_ne (by omega), up_ne (by omega)]
        exact p2 i (by omega)
      · rw [e2, up_ne (by omega), e1, up_ne (by omega)]
        exact p3 i
end LP2
