/-! THE CALLS that the law makes, each with what it answers -/
theorem inI_t {k lo hi : Nat} (h1 : lo ≤ k) (h2 : k ≤ hi) (hh : hi < 2 ^ 31) : inI (nI k) (nI lo) (nI hi) = 1 := by
  unfold inI
  rw [if_neg (by rw [nI_ltI (by omega) (by omega)]; omega), if_neg (by rw [nI_ltI (by omega) (by omega)]; omega)]
theorem sp_in {k lo hi : Nat} {x y : Int32} {Q : Int32 → Prop} (h1 : lo ≤ k) (h2 : k ≤ hi) (hh : hi < 2 ^ 31) (hx : x = nI lo) (hy : y = nI hi) (h : Q 1) : wpX5_isWithin (nI k) x y Q := by
  subst hx
  subst hy
  exact sp_within (by rw [inI_t h1 h2 hh]; exact h)
section CALLS
variable {N : Nat → Nat} {A : SA} {V : SV} {A2 : SA} {V2 : SV} {Q : Int32 → SA → SV → SA → SV → Prop}
theorem sp5_letter {j k : Nat} (hI : IV N A V) (hj : j < N 3) (hk : k < 9) (h : Q (A (9 + k) j) A V A2 V2) : wpX5_letter A V A2 V2 (nI j) (nI k) Q := by
  unfold wpX5_letter wb_X5_letter_0
  have n3 := hI.n3
  refine sp_has2 ?_
  rw [hI.v 3 (by omega), hasI_t hj (by omega)]
  exact ⟨fun q => absurd q (by decide), fun _ => sp_in (lo := 0) (hi := 8) (by omega) (by omega) (by omega) rfl rfl ⟨fun _ => sp_fact2 (hI.v 3 (by omega)) n3 hj hk h, fun q => absurd q (by decide)⟩⟩
theorem sp5_drowned {j k : Nat} (hI : IV N A V) (hj : j < N 2) (hk : k < 5) (h : Q (A (4 + k) j) A V A2 V2) : wpX5_drowned A V A2 V2 (nI j) (nI k) Q := by
  unfold wpX5_drowned wb_X5_drowned_0
  have n2 := hI.n2
  refine sp_has1 ?_
  rw [hI.v 2 (by omega), hasI_t hj (by omega)]
  exact ⟨fun q => absurd q (by decide), fun _ => sp_in (lo := 0) (hi := 4) (by omega) (by omega) (by omega) rfl rfl ⟨fun _ => sp_fact1 (hI.v 2 (by omega)) n2 hj hk h, fun q => absurd q (by decide)⟩⟩
theorem sp5_bin {j k : Nat} (hI : IV N A V) (hj : j < N 1) (hk : k < 5) (h4 : N 4 < 2 ^ 31) (h : Q (bnV N A j k) A V A2 V2) : wpX5_bin A V A2 V2 (nI j) (nI k) Q := by
  unfold wpX5_bin wb_X5_bin_0
  have n1 := hI.n1
  refine sp_has0 ?_
  rw [hI.v 1 (by omega), hasI_t hj (by omega)]
  exact ⟨fun q => absurd q (by decide), fun _ => sp_in (lo := 0) (hi := 4) (by omega) (by omega) (by omega) rfl rfl ⟨fun _ => sp_binFact hI hj hk h4 h, fun q => absurd q (by decide)⟩⟩
theorem sp5_count {k : Nat} (hI : IV N A V) (hk : k < 13) (h : Q (ctV N A k) A V A2 V2) : wpX5_count A V A2 V2 (nI k) Q := by
  unfold wpX5_count wb_X5_count_0
  exact sp_in (lo := 0) (hi := 12) (by omega) (by omega) (by omega) rfl rfl ⟨fun _ => sp_total hI hk h, fun q => absurd q (by decide)⟩
theorem sp5_tide {k : Nat} (hI : IV N A V) (hk : k < 2 ^ 31) (h : Q (A 0 (k % N 0)) A V A2 V2) : wpX5_tide A V A2 V2 (nI k) Q := by
  unfold wpX5_tide wb_X5_tide_0
  exact ⟨fun _ => sp_heightIn (hI.v 0 (by omega)) hI.1.2.1 hI.1.2.2.1 hk h, fun q => absurd (nI_pos' hk) q⟩
theorem sp5_bring {j w s : Nat} (hI : IV N A V) (hj : j < N 2) (hw1 : 1 ≤ w) (hw2 : w ≤ 9) (hs1 : 1 ≤ s) (hs2 : s ≤ 60) (hn : N 3 < 150) (h : Q (nI (N 3)) (adA A (N 3) (nI j) (nI w) (nI s) 0 0 (-1)) (uv V 3 (nI (N 3 + 1))) A2 V2) : wpX5_bring A V A2 V2 (nI j) (nI w) (nI s) Q := by
  unfold wpX5_bring wb_X5_bring_0
  have n2 := hI.n2
  have v3 := hI.v 3 (by omega)
  refine sp_has1 ?_
  rw [hI.v 2 (by omega), hasI_t hj (by omega)]
  refine ⟨fun _ => sp_in (lo := 1) (hi := 9) hw1 hw2 (by omega) rfl rfl ⟨fun q => absurd q (by decide), fun _ => sp_in (lo := 1) (hi := 60) hs1 hs2 (by omega) rfl rfl ⟨fun _ => ⟨fun _ => sp_append v3 hn h, fun q => ?_⟩, fun q => absurd q (by decide)⟩⟩, fun q => absurd q (by decide)⟩
  rw [v3] at q
  exact q ((nI_ltI (b := 150) (by omega) (by omega)).mpr hn)
theorem sp5_pass (hI : IV N A V) (h4 : N 4 < 2 ^ 20) (h : ∀ V', IV (hrN A N) (hrD A N) V' → Q (nI (hrW A N).2) (hrD A N) V' A2 V2) : wpX5_pass A V A2 V2 (nI 1) Q := by
  unfold wpX5_pass wb_X5_pass_0
  refine sp_in (lo := 1) (hi := 200) (by omega) (by omega) (by omega) rfl rfl ⟨fun _ => sp_letGoBy hI (k := 1) (by omega) (by omega) (fun V' h1 => ?_), fun q => absurd q (by decide)⟩
  have h2 := h V' h1
  rw [← Nat.zero_add (hrW A N).2] at h2
  exact h2
theorem sp5_beginTides {k : Nat} (hI : IV N A V) (hk : k ≤ 99) (h : Q (nI (N 0)) (up A 0 0 (nI k)) (uv V 0 (nI 1)) A2 V2) : wpX5_beginTides A V A2 V2 (nI k) Q := by
  unfold wpX5_beginTides wb_X5_beginTides_0
  refine sp_in (lo := 0) (hi := 99) (by omega) (by omega) (by omega) rfl rfl ⟨fun _ => ⟨vp_in_nI (n := 0) (by omega) (by omega), fun B e1 W v1 => ?_⟩, fun q => absurd q (by decide)⟩
  rw [e1, v1, hI.v 0 (by omega)]
  exact h
theorem sp5_addTide {k : Nat} (hI : IV N A V) (hk : k ≤ 99) (hn : N 0 < 30) (h : Q (nI (N 0 + 1)) (up A 0 (N 0) (nI k)) (uv V 0 (nI (N 0 + 1))) A2 V2) : wpX5_addTide A V A2 V2 (nI k) Q := by
  unfold wpX5_addTide wb_X5_addTide_0
  have v0 := hI.v 0 (by omega)
  refine sp_in (lo := 0) (hi := 99) (by omega) (by omega) (by omega) rfl rfl ⟨fun _ => ⟨fun _ => ?_, fun q => absurd (by rw [v0]; exact (nI_ltI (b := 30) (by omega) (by omega)).mpr hn) q⟩, fun q => absurd q (by decide)⟩
  unfold wpX4_append wb_X4_append_0
  rw [v0]
  refine ⟨fun q => ?_, fun _ => ⟨vp_in_nI (by omega) (by omega), fun B e1 W v1 => ?_⟩⟩
  · have := (nI_leI (a := 30) (by omega) (by omega)).mp q
    omega
  rw [nI_clamp (by omega)] at e1
  rw [nI_1] at v1
  rw [e1, v1]
  exact h
theorem sp5_addBin {k r : Nat} (hI : IV N A V) (hk : k ≤ 99) (hr1 : 1 ≤ r) (hr2 : r ≤ 20) (hn : N 1 < 10) (h : Q (nI (N 1)) (up (up (up A 1 (N 1) (nI k)) 2 (N 1) (nI r)) 3 (N 1) 0) (uv V 1 (nI (N 1 + 1))) A2 V2) : wpX5_addBin A V A2 V2 (nI k) (nI r) Q := by
  unfold wpX5_addBin wb_X5_addBin_0
  have v1 := hI.v 1 (by omega)
  have hc : V 1 < 10 := by rw [v1]; exact (nI_ltI (b := 10) (by omega) (by omega)).mpr hn
  refine sp_in (lo := 0) (hi := 99) (by omega) (by omega) (by omega) rfl rfl ⟨fun q => absurd q (by decide), fun _ => sp_in (lo := 1) (hi := 20) hr1 hr2 (by omega) rfl rfl ⟨fun _ => ⟨fun _ => ?_, fun q => absurd hc q⟩, fun q => absurd q (by decide)⟩⟩
  unfold wpX0_append wb_X0_append_0
  rw [v1] at hc ⊢
  have hin : vp_in (nI (N 1)) 10 := vp_in_nI (by omega) (by omega)
  refine ⟨fun _ => ⟨hin, fun B1 e1 => ⟨hin, fun B2 e2 => ⟨hin, fun B3 e3 W w => ?_⟩⟩⟩, fun q => absurd hc q⟩
  rw [nI_clamp (by omega)] at e1 e2 e3
  rw [nI_1] at w
  rw [e3, e2, e1, w]
  exact h
theorem sp5_addDrowned {k n g : Nat} (hI : IV N A V) (hk : k ≤ 99) (hn5 : n ≤ 5) (hg1 : 1 ≤ g) (hg2 : g ≤ 60) (hn : N 2 < 16) (h : Q (nI (N 2)) (adD A (N 2) (nI k) (nI n) (nI g)) (uv V 2 (nI (N 2 + 1))) A2 V2) : wpX5_addDrowned A V A2 V2 (nI k) (nI n) (nI g) Q := by
  unfold wpX5_addDrowned wb_X5_addDrowned_0
  have v2 := hI.v 2 (by omega)
  have hc : V 2 < 16 := by rw [v2]; exact (nI_ltI (b := 16) (by omega) (by omega)).mpr hn
  refine sp_in (lo := 0) (hi := 99) (by omega) (by omega) (by omega) rfl rfl ⟨fun q => absurd q (by decide), fun _ => sp_in (lo := 0) (hi := 5) (by omega) hn5 (by omega) rfl rfl ⟨fun q => absurd q (by decide), fun _ => sp_in (lo := 1) (hi := 60) hg1 hg2 (by omega) rfl rfl ⟨fun _ => ⟨fun _ => ?_, fun q => absurd hc q⟩, fun q => absurd q (by decide)⟩⟩⟩
  unfold wpX1_append wb_X1_append_0
  rw [v2] at hc ⊢
  have hin : vp_in (nI (N 2)) 16 := vp_in_nI (by omega) (by omega)
  refine ⟨fun _ => ⟨hin, fun B1 e1 => ⟨hin, fun B2 e2 => ⟨hin, fun B3 e3 => ⟨hin, fun B4 e4 => ⟨hin, fun B5 e5 W w => ?_⟩⟩⟩⟩⟩, fun q => absurd hc q⟩
  rw [nI_clamp (by omega)] at e1 e2 e3 e4 e5
  rw [nI_1] at w
  rw [e5, e4, e3, e2, e1, w]
  exact h
theorem sp5_setCrew {k r : Nat} (hI : IV N A V) (hk : k ≤ 9) (hr : r ≤ 9) (h : Q (nI (N 6)) A (uv (uv V 5 (nI k)) 6 (nI r)) A2 V2) : wpX5_setCrew A V A2 V2 (nI k) (nI r) Q := by
  unfold wpX5_setCrew wb_X5_setCrew_0
  refine sp_in (lo := 0) (hi := 9) (by omega) hk (by omega) rfl rfl ⟨fun q => absurd q (by decide), fun _ => sp_in (lo := 0) (hi := 9) (by omega) hr (by omega) rfl rfl ⟨fun _ => fun W1 w1 W2 w2 => ?_, fun q => absurd q (by decide)⟩⟩
  rw [w2, w1, hI.v 6 (by omega)]
  exact h
end CALLS
