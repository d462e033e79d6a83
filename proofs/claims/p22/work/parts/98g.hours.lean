/-! THE LAW'S HOURS -/
theorem sp_below {x y : Int32} {d : Nat} {Q : Int32 → Prop} (hy : y = nI d) (h0 : 0 < d) (hd : d < 2 ^ 30) (h : ∀ r, r < d → Q (nI r)) : wpL_below x y Q := by
  subst hy
  obtain ⟨j, hj, e⟩ := pk_andE x (m := 2147483647) 31 (by decide)
  unfold wpL_below wb_L_below_0
  refine ⟨nI_ne0 h0 (by omega), ?_⟩
  rw [e, pk_rem (by omega) h0 (by omega)]
  exact h _ (Nat.mod_lt _ h0)
theorem cov_held {N : Nat → Nat} {A : SA} {V : SV} {i : Nat} (hI : IV N A V) (hi : i < N 3) (h : hrD A N 12 i = 1) : covI (hrT A N) A i = hrD A N 15 i := by
  obtain ⟨_, _, _, _, _, hbin, _, _⟩ := hI.2.2.2 i hi
  unfold covI
  rcases (hr_at (A := A) hi).2 with ⟨c, _, _, d⟩ | ⟨c, u, _, _, d⟩ | ⟨c, u, _, d⟩ | ⟨_, d, _⟩ | ⟨_, c, _, d, _⟩
  · rw [if_neg (by rw [c]; exact fun q => absurd q.1 (by decide)), d]
    rcases hbin with ⟨q, _⟩ | ⟨_, _, q⟩
    · rw [c] at q; exact absurd q (by decide)
    · exact q.symm
  · rw [if_neg (fun q => q.2 u), d]
  · rw [if_pos ⟨c, u⟩]
    rcases d with ⟨_, d⟩ | ⟨_, _, d⟩ | ⟨_, _, _, d⟩
    · rw [h] at d; exact absurd d (by decide)
    · rw [h] at d; exact absurd d (by decide)
    · exact d.symm
  · rw [h] at d
    rcases d with d | ⟨d, _⟩ <;> exact absurd d (by decide)
  · rw [h] at d; exact absurd d.symm c
section HRS
variable {cl : Int32 → Int32} {hB hD : Nat → Int32} {K46 : Nat → SA → SV → SA → SV → SA → Int32 → Int32 → Prop} {k0 : Nat} {N : Nat → Nat} {A : SA} {V : SV} {A2 : SA} {V2 : SV} {L : SA}
theorem hour142 (hI : IV N A V) (hG : GI N A) (h4 : N 4 < 1000) (hk : k0 + 1 + 1 ≤ 40000) (eB : ∀ b, b < N 1 → hB b = A 1 b) (eD : ∀ o, o < N 2 → hD o = A 4 o) (l0 : ∀ i, i < N 3 → L 0 i = A 12 i ∧ L 1 i = A 13 i ∧ (A 12 i = 1 → L 2 i = A 15 i)) (lz : ∀ i, N 3 ≤ i → L 0 i = 0 ∧ L 1 i = 0)
    (hnext : ∀ V' L', IV (hrN A N) (hrD A N) V' → (∀ i, i < hrN A N 3 → L' 0 i = hrD A N 12 i ∧ L' 1 i = hrD A N 13 i ∧ (hrD A N 12 i = 1 → L' 2 i = hrD A N 15 i)) → (∀ i, hrN A N 3 ≤ i → L' 0 i = 0 ∧ L' 1 i = 0) → K46 (k0 + 1 + 1) (hrD A N) V' A2 V2 L' (nI (hrN A N 3)) (nI (N 4) + 1)) :
    wb_L_law_142 cl (N 1) (N 2) hB hD K46 k0 A V A2 V2 L (nI (N 3)) (nI (N 4)) := by
  have n3 := hI.n3
  have g0 : N 3 ≤ hrN A N 3 := hr_N3
  have e1 : hrN A N 1 = N 1 := gx_ne (N 3) 1 (by omega)
  have e2 : hrN A N 2 = N 2 := gx_ne (N 3) 2 (by omega)
  unfold wb_L_law_142
  refine sp5_tide (k := N 4) hI (by omega) ⟨nI_nn (by omega), by rw [nI_clamp (by omega)]; exact n3, by omega, fun L1 f1 => ⟨N 3 - 0 + 1, ?_⟩⟩
  have r1 : ∀ q i, q ≠ 3 → L1 q i = L q i := fun q i hq => by rw [f1, ua_at, if_neg hq]
  refine up_loop (P := fun f j => ∀ L', (∀ q i, q ≠ 3 → L' q i = L1 q i) → (∀ i, i < j → L' 3 i = A 14 i) → wl_L_law_159 cl (N 1) (N 2) hB hD K46 f (k0 + 1) A V A2 V2 L' (nI (N 3)) (nI (N 4)) (hrT A N) (nI j)) (fun f L' p q => ?_) (fun f j hj ih L' p q => ?_) 0 (Nat.zero_le _) L1 (fun _ _ _ => rfl) (fun i hi => absurd hi (by omega))
  · refine ⟨fun _ => sp5_pass hI (by omega) (fun V' hI' => sp5_count (k := 3) hI' (by omega) ?_), fun c => absurd (Int32.le_refl _) c⟩
    rw [ctV_3]
    refine ⟨hk, fun L2 f2 => ?_⟩
    have r2 : ∀ q i, q ≠ 4 → L2 q i = L' q i := fun q i hq => by rw [f2, ua_at, if_neg hq]
    have hG' := hG.hour hI
    refine lp207 hI hI' eB eD (fun i hi => ?_) (fun i hi => ?_) (fun i hi hs => ?_) (fun i hi => ?_) (fun s => ?_) (fun L3 hP => ?_)
    · rw [r2 0 i (by omega), p 0 i (by omega), r1 0 i (by omega)]; exact (l0 i hi).1
    · rw [r2 1 i (by omega), p 1 i (by omega), r1 1 i (by omega)]; exact (l0 i hi).2.1
    · rw [r2 2 i (by omega), p 2 i (by omega), r1 2 i (by omega)]; exact (l0 i hi).2.2 hs
    · rw [r2 3 i (by omega)]; exact q i hi
    · rw [f2, ua_at, if_pos rfl]
    · obtain ⟨p0, p1, p3, p4, p2, p5⟩ := hP
      have q0 : ∀ i, L3 0 i = L 0 i := fun i => by rw [p0, r2 0 i (by omega), p 0 i (by omega), r1 0 i (by omega)]
      have q1 : ∀ i, L3 1 i = L 1 i := fun i => by rw [p1, r2 1 i (by omega), p 1 i (by omega), r1 1 i (by omega)]
      refine lp686 hI hI' (fun i hi => by rw [q0]; exact (l0 i hi).1) (lp731 hI' e2 hG' (lp858 hI' (by rw [nI_1, hr_N4]) rfl p4 (lp939 hI' e1 (by rw [hr_N4]; omega) (p4 1 (by omega)) (lp1000 hI' (fun L4 s1 s2 s3 => ?_)))))
      refine hnext V' L4 hI' (fun i hi => ⟨(s1 i hi).1, (s1 i hi).2, fun hs => ?_⟩) (fun i hi => ?_)
      · rw [s3 i]
        rcases Nat.lt_or_ge i (N 3) with h | h
        · rw [p2 i hi h]; exact cov_held hI h hs
        · rw [(hr_new (A := A) h hi).1] at hs; exact absurd hs (by decide)
      · rw [(s2 i hi).1, (s2 i hi).2, q0, q1]
        exact lz i (by omega)
  · refine ⟨fun c => ?_, fun _ => sp5_letter (k := 5) hI hj (by omega) ⟨?_, fun L2 f2 => ?_⟩⟩
    · rw [nI_leI (by omega) (by omega)] at c; omega
    · rw [nI_clamp (n := N 3) (by omega)]; exact vp_in_nI hj (by omega)
    · rw [nI_clamp (by omega)] at f2
      rw [nI_1]
      refine ih L2 (fun q i hq => ?_) (fun i hi => ?_)
      · rw [f2, up_ne (Or.inl hq)]; exact p q i hq
      · rw [f2]
        by_cases e : i = j
        · rw [e, up_eq]
        · rw [up_ne (Or.inr e)]; exact q i (by omega)
end HRS
/-- what holds as an hour begins -/
def LIV (nB nD : Nat) (hB hD : Nat → Int32) (h : Nat) (A : SA) (V : SV) (L : SA) (x6 : Int32) : Prop := ∃ N : Nat → Nat, IV N A V ∧ GI N A ∧ N 4 = h ∧ N 1 = nB ∧ N 2 = nD ∧ x6 = nI (N 3) ∧ (∀ b, b < nB → hB b = A 1 b) ∧ (∀ o, o < nD → hD o = A 4 o) ∧ (∀ i, i < N 3 → L 0 i = A 12 i ∧ L 1 i = A 13 i ∧ (A 12 i = 1 → L 2 i = A 15 i)) ∧ (∀ i, N 3 ≤ i → L 0 i = 0 ∧ L 1 i = 0)
theorem GI.bring {N : Nat → Nat} {A : SA} {V : SV} {a b c : Int32} (hI : IV N A V) (hG : GI N A) (hn : N 3 < 150) : GI (nx N) (adA A (N 3) a b c 0 0 (-1)) := by
  obtain ⟨G, W, hr, sG, sW⟩ := hG
  obtain ⟨c1, c2, c3, c4, c5, c6, c7, c8, c9⟩ := @adA_at A (N 3) a b c 0 0 (-1)
  have cc : ∀ P : Int32 → Prop, ∀ d : (∀ l, Decidable (P (adA A (N 3) a b c 0 0 (-1) 12 l))), ∀ d2 : (∀ l, Decidable (P (A 12 l))), ¬ P 0 → cnt (fun l => @decide _ (d l)) (N 3 + 1) = cnt (fun l => @decide _ (d2 l)) (N 3) := fun P d d2 h0 => by
    rw [cnt_s0]
    · refine cnt_congr (fun j hj => ?_)
      have e : adA A (N 3) a b c 0 0 (-1) 12 j = A 12 j := adA_ne (by omega)
      by_cases q : P (A 12 j)
      · rw [decide_eq_true q, decide_eq_true (by rw [e]; exact q)]
      · rw [decide_eq_false q, decide_eq_false (by rw [e]; exact q)]
    · exact decide_eq_false (by rw [c4]; exact h0)
  refine ⟨G, W, fun o ho => ?_, ?_, ?_⟩
  · have ho : o < N 2 := ho
    obtain ⟨p7, p8, n, p5, pn, q0, qn⟩ := (hr o ho).congr (B := adA A (N 3) a b c 0 0 (-1)) (adA_ne (by omega)) (adA_ne (by omega)) (adA_ne (by omega))
    exact ⟨p7, p8, n, p5, pn, q0, fun h => ⟨(qn h).1, fun _ => (qn h).2 hn⟩⟩
  · show sumN G (N 2) = cnt _ (N 3 + 1)
    rw [sG]
    exact (cc (fun x => x = 2) _ _ (by decide)).symm
  · show sumN W (N 2) = cnt _ (N 3 + 1)
    rw [sW]
    exact (cc (fun x => x = 4 ∨ x = 5) _ _ (by decide)).symm
theorem law46 {cl : Int32 → Int32} {nB nD : Nat} {hB hD : Nat → Int32} {A : SA} {V : SV} {A2 : SA} {V2 : SV} {L : SA} {x6 : Int32} (hn : 1 ≤ nD) (hn2 : nD < 100) (h : LIV nB nD hB hD 0 A V L x6) : ∃ n46, wl_L_law_46 cl nB nD hB hD n46 1003 A V A2 V2 L x6 0 := by
  refine ⟨90 - 0 + 1, ?_⟩
  refine up_loop (P := fun f j => ∀ A V L x6, LIV nB nD hB hD j A V L x6 → wl_L_law_46 cl nB nD hB hD f (1003 + 2 * j) A V A2 V2 L x6 (nI j)) (n := 90) (fun f A V L x6 _ => ?_) (fun f j hj ih A V L x6 hL => ?_) 0 (Nat.zero_le _) A V L x6 h
  · exact ⟨fun _ => trivial, fun c => absurd (Int32.le_refl _) c⟩
  · have ek : 1003 + 2 * (j + 1) = 1003 + 2 * j + 1 + 1 := by omega
    rw [ek] at ih
    -- an hour, from a state at its middle
    have go : ∀ (N : Nat → Nat) (A : SA) (V : SV) (L : SA), IV N A V → GI N A → N 4 = j → N 1 = nB → N 2 = nD → (∀ b, b < nB → hB b = A 1 b) → (∀ o, o < nD → hD o = A 4 o) → (∀ i, i < N 3 → L 0 i = A 12 i ∧ L 1 i = A 13 i ∧ (A 12 i = 1 → L 2 i = A 15 i)) → (∀ i, N 3 ≤ i → L 0 i = 0 ∧ L 1 i = 0) → wb_L_law_142 cl nB nD hB hD (wl_L_law_46 cl nB nD hB hD f) (1003 + 2 * j) A V A2 V2 L (nI (N 3)) (nI j) := by
      intro N A V L hI hG e4 e1 e2 eB eD l0 lz
      have hnext : ∀ V' L', IV (hrN A N) (hrD A N) V' → (∀ i, i < hrN A N 3 → L' 0 i = hrD A N 12 i ∧ L' 1 i = hrD A N 13 i ∧ (hrD A N 12 i = 1 → L' 2 i = hrD A N 15 i)) → (∀ i, hrN A N 3 ≤ i → L' 0 i = 0 ∧ L' 1 i = 0) → wl_L_law_46 cl nB nD hB hD f (1003 + 2 * j + 1 + 1) (hrD A N) V' A2 V2 L' (nI (hrN A N 3)) (nI (N 4) + 1) := fun V' L' hI' s1 s2 => by
        rw [e4, nI_1]
        refine ih _ _ _ _ ⟨hrN A N, hI', hG.hour hI, by rw [hr_N4, e4], ?_, ?_, rfl, fun b hb => ?_, fun o ho => ?_, s1, s2⟩
        · rw [show hrN A N 1 = N 1 from gx_ne (N 3) 1 (by omega)]; exact e1
        · rw [show hrN A N 2 = N 2 from gx_ne (N 3) 2 (by omega)]; exact e2
        · rw [hr_fr (by omega)]; exact eB b hb
        · rw [hr_fr (by omega)]; exact eD o ho
      have h1 := hour142 (cl := cl) (k0 := 1003 + 2 * j) (A2 := A2) (V2 := V2) (hB := hB) (hD := hD) hI hG (by omega) (by omega) (by rw [e1]; exact eB) (by rw [e2]; exact eD) l0 lz hnext
      rw [e1, e2, e4] at h1
      exact h1
    obtain ⟨N, hI, hG, e4, e1, e2, rfl, eB, eD, l0, lz⟩ := hL
    have n3 := hI.n3
    have em : nI j - nI j / (16 : Int32) * (16 : Int32) = nI (j % 16) := pk_rem (d := 16) (by omega) (by omega) (by omega)
    have base := go N A V L hI hG e4 e1 e2 eB eD l0 lz
    refine ⟨fun c => ?_, fun _ => ⟨by decide, by rw [em]; exact nI_nn (by omega), by decide, sp_below (d := 2) rfl (by omega) (by omega) (fun r hr => ⟨fun _ => base, fun _ => sp5_count (k := 3) hI (by omega) ?_⟩)⟩⟩
    · rw [show (90 : Int32) = nI 90 from rfl, nI_leI (by omega) (by omega)] at c; omega
    rw [ctV_3]
    refine ⟨fun _ => base, fun c => sp_below rfl hn (by omega) (fun o ho => sp_below (d := 9) rfl (by omega) (by omega) (fun w hw => sp_below (d := 60) rfl (by omega) (by omega) (fun s hs => ?_)))⟩
    have h150 : N 3 < 150 := by
      rw [show (150 : Int32) = nI 150 from rfl, nI_leI (by omega) (by omega)] at c; omega
    rw [show (1 : Int32) + nI w = nI (1 + w) from nI_add 1 w, show (1 : Int32) + nI s = nI (1 + s) from nI_add 1 s]
    refine sp5_bring hI (by omega) (by omega) (by omega) (by omega) (by omega) h150 ⟨fun _ => ?_, fun c => absurd rfl c⟩
    rw [nI_1]
    obtain ⟨c1, c2, c3, c4, c5, c6, c7, c8, c9⟩ := @adA_at A (N 3) (nI o) (nI (1 + w)) (nI (1 + s)) 0 0 (-1)
    have hI2 := hI.add (o := o) (w := 1 + w) (s := 1 + s) (z := 0) (y := 0) (f := -1) h150 (by omega) (by omega) (by omega) (by omega) (by omega) (Or.inl rfl) (by omega)
    refine go (nx N) _ _ L hI2 (hG.bring hI h150) (by rw [nx_ne (by omega)]; exact e4) (by rw [nx_ne (by omega)]; exact e1) (by rw [nx_ne (by omega)]; exact e2) (fun b hb => by rw [adA_ne (by omega)]; exact eB b hb) (fun o' ho' => by rw [adA_ne (by omega)]; exact eD o' ho') (fun i hi => ?_) (fun i hi => lz i (by rw [nx_3] at hi; omega))
    rw [nx_3] at hi
    by_cases e : i = N 3
    · subst e
      obtain ⟨z0, z1⟩ := lz (N 3) (Nat.le_refl _)
      exact ⟨z0.trans c4.symm, z1.trans c5.symm, fun q => absurd (c4.symm.trans q) (by decide)⟩
    · rw [adA_ne (by omega), adA_ne (by omega), adA_ne (by omega)]
      exact l0 i (by omega)
