/-! THE LAW'S CHECK OF ONE LETTER -/
section CHK
variable {cl : Int32 → Int32} {nB nD : Nat} {hB hD : Nat → Int32} {K46 : Nat → SA → SV → SA → SV → SA → Int32 → Int32 → Prop} {K207 : Nat → SA → SV → SA → SV → SA → Int32 → Int32 → Int32 → Int32 → Int32 → Int32 → Prop} {k0 k : Nat} {M : Nat → Nat} {B : SA} {V : SV} {A2 : SA} {V2 : SV} {L : SA} {x6 x7 t x11 x12 x15 x16 x17 x19 cov : Int32}
theorem ck650 (hI : IV M B V) (hk : k < M 3) (h6 : B 15 k = L 2 k) (hK : K207 k0 B V A2 V2 L x6 x7 t x11 x12 (nI (k + 1))) : wb_L_law_650 cl nB nD hB hD K46 K207 k0 B V A2 V2 L x6 x7 t x11 x12 (nI k) := by
  have n3 := hI.n3
  unfold wb_L_law_650
  refine sp5_letter (k := 6) hI hk (by omega) ⟨vp_in_nI (by omega) (by omega), fun _ => ?_, fun q => ?_⟩
  · rw [nI_1]; exact hK
  · rw [nI_clamp (by omega)] at q; exact absurd h6 q
theorem ck618 (hI : IV M B V) (hk : k < M 3) (h1 : x15 = 1 → ¬ 2 < L 2 k ∧ (¬ x16 < B 11 k → x19 = 0) ∧ B 15 k = L 2 k) (hK : K207 k0 B V A2 V2 L x6 x7 t x11 x12 (nI (k + 1))) : wb_L_law_618 cl nB nD hB hD K46 K207 k0 B V A2 V2 L x6 x7 t x11 x12 (nI k) x15 x16 x19 := by
  have n3 := hI.n3
  unfold wb_L_law_618
  refine ⟨fun _ => by rw [nI_1]; exact hK, fun q => ?_⟩
  obtain ⟨a, b, c⟩ := h1 q
  refine ⟨vp_in_nI (by omega) (by omega), fun w => ?_, fun _ => sp5_letter (k := 2) hI hk (by omega) ⟨fun _ => ck650 hI hk c hK, fun w => ⟨fun z => absurd (b w) z, fun _ => ck650 hI hk c hK⟩⟩⟩
  rw [nI_clamp (by omega)] at w
  exact absurd w a
theorem ck594 (hI : IV M B V) (hk : k < M 3) (h3 : x15 = 3 → x17 = 1 → ¬ x16 < B 11 k) (h1 : x15 = 1 → ¬ 2 < L 2 k ∧ (¬ x16 < B 11 k → x19 = 0) ∧ B 15 k = L 2 k) (hK : K207 k0 B V A2 V2 L x6 x7 t x11 x12 (nI (k + 1))) : wb_L_law_594 cl nB nD hB hD K46 K207 k0 B V A2 V2 L x6 x7 t x11 x12 (nI k) x15 x16 x17 x19 := by
  unfold wb_L_law_594
  refine ⟨fun _ => ck618 hI hk h1 hK, fun q => ⟨fun _ => ck618 hI hk h1 hK, fun w => ?_⟩⟩
  exact sp5_letter (k := 2) hI hk (by omega) ⟨fun z => absurd z (h3 q w), fun _ => ck618 hI hk h1 hK⟩
theorem ck572 (hI : IV M B V) (hk : k < M 3) (h2 : x15 = 2 → x17 = 1 → cov = 3) (h3 : x15 = 3 → x17 = 1 → ¬ x16 < B 11 k) (h1 : x15 = 1 → ¬ 2 < cov ∧ (¬ x16 < B 11 k → x19 = 0) ∧ B 15 k = cov) (hK : K207 k0 B V A2 V2 (up L 2 k cov) x6 x7 t x11 x12 (nI (k + 1))) : wb_L_law_572 cl nB nD hB hD K46 K207 k0 B V A2 V2 L x6 x7 t x11 x12 (nI k) x15 x16 x17 x19 (nI k) cov := by
  have n3 := hI.n3
  unfold wb_L_law_572
  refine ⟨vp_in_nI (by omega) (by omega), fun L' e => ?_⟩
  rw [nI_clamp (by omega)] at e
  have e2 : L' 2 k = cov := by rw [e, up_eq]
  have hK : K207 k0 B V A2 V2 L' x6 x7 t x11 x12 (nI (k + 1)) := by rw [e]; exact hK
  have go : wb_L_law_594 cl nB nD hB hD K46 K207 k0 B V A2 V2 L' x6 x7 t x11 x12 (nI k) x15 x16 x17 x19 := ck594 hI hk h3 (by rw [e2]; exact h1) hK
  refine ⟨fun _ => go, fun q => ⟨fun _ => go, fun w => ⟨vp_in_nI (by omega) (by omega), fun z => ?_, fun _ => go⟩⟩⟩
  rw [nI_clamp (by omega), e2] at z
  exact z (h2 q w)
theorem ck526 {o : Nat} (hI : IV M B V) (hk : k < M 3) (ho : o < nD) (ho9 : B 9 k = nI o) (hn : nD < 100) (h0 : 0 ≤ x16) (hc0 : x19 = 0 → cov = 0) (hc1 : ¬ x19 = 0 → cov = if t < hD o then 0 else L 2 k + 1) (h2 : x15 = 2 → x17 = 1 → cov = 3) (h3 : x15 = 3 → x17 = 1 → ¬ x16 < B 11 k) (h1 : x15 = 1 → ¬ 2 < cov ∧ (¬ x16 < B 11 k → x19 = 0) ∧ B 15 k = cov) (hK : K207 k0 B V A2 V2 (up L 2 k cov) x6 x7 t x11 x12 (nI (k + 1))) : wb_L_law_526 cl nB nD hB hD K46 K207 k0 B V A2 V2 L x6 x7 t x11 x12 (nI k) x15 x16 x17 x19 := by
  have n3 := hI.n3
  unfold wb_L_law_526
  refine ⟨fun _ => ⟨fun q => ?_, fun q => sp5_letter (k := 0) hI hk (by omega) ?_⟩, fun q => q h0⟩
  · have e := hc0 q
    subst e
    exact ck572 hI hk h2 h3 h1 hK
  · show vp_in (B 9 k) nD ∧ _
    rw [ho9]
    refine ⟨vp_in_nI ho (by omega), fun w => ?_, fun w => ⟨vp_in_nI (by omega) (by omega), ?_⟩⟩
    · rw [nI_clamp (by omega)] at w
      have e := hc1 q
      rw [if_pos w] at e
      subst e
      exact ck572 hI hk h2 h3 h1 hK
    · rw [nI_clamp (by omega)] at w
      have e := hc1 q
      rw [if_neg w] at e
      rw [nI_clamp (by omega), ← e]
      exact ck572 hI hk h2 h3 h1 hK
theorem ck454 {o : Nat} (hI : IV M B V) (hk : k < M 3) (ho : o < nD) (ho9 : B 9 k = nI o) (hn : nD < 100) (h0 : 0 ≤ x16) (h5 : x19 = 0 → ¬ x16 < L 1 k - 2 ∧ ¬ L 1 k + 0 < x16) (h7 : ¬ x19 = 0 → x16 = L 1 k + (1 + B 10 k / 3)) (hc0 : x19 = 0 → cov = 0) (hc1 : ¬ x19 = 0 → cov = if t < hD o then 0 else L 2 k + 1) (h2 : x15 = 2 → x17 = 1 → cov = 3) (h3 : x15 = 3 → x17 = 1 → ¬ x16 < B 11 k) (h1 : x15 = 1 → ¬ 2 < cov ∧ (¬ x16 < B 11 k → x19 = 0) ∧ B 15 k = cov) (hK : K207 k0 B V A2 V2 (up L 2 k cov) x6 x7 t x11 x12 (nI (k + 1))) : wb_L_law_454 cl nB nD hB hD K46 K207 k0 B V A2 V2 L x6 x7 t x11 x12 (nI k) x15 x16 x17 x19 := by
  have n3 := hI.n3
  have hin : vp_in (nI k) 150 := vp_in_nI (by omega) (by omega)
  have go := ck526 (cl := cl) (nB := nB) (hB := hB) (K46 := K46) (K207 := K207) (x6 := x6) (x7 := x7) (x11 := x11) (x12 := x12) (k0 := k0) (A2 := A2) (V2 := V2) hI hk ho ho9 hn h0 hc0 hc1 h2 h3 h1 hK
  have g509 : wb_L_law_509 cl nB nD hB hD K46 K207 k0 B V A2 V2 L x6 x7 t x11 x12 (nI k) x15 x16 x17 x19 := by
    unfold wb_L_law_509
    refine ⟨fun _ => go, fun q => ⟨hin, fun w => ?_, fun _ => go⟩⟩
    rw [nI_clamp (by omega)] at w
    exact (h5 q).1 w
  unfold wb_L_law_454
  refine ⟨fun q => ?_, fun q => sp5_letter (k := 1) hI hk (by omega) ⟨by decide, ?_⟩⟩
  · unfold wb_L_law_476
    rw [nI_clamp (by omega)]
    refine ⟨hin, fun w => (h5 q).2 w, fun _ => ⟨fun _ => g509, fun w => absurd q w⟩⟩
  · unfold wb_L_law_476
    rw [nI_clamp (by omega)]
    have e : x16 = L 1 k + (1 + B (9 + 1) k / 3) := h7 q
    refine ⟨hin, fun w => ?_, fun _ => ⟨fun _ => g509, fun _ => ⟨hin, fun w => absurd e w, fun _ => g509⟩⟩⟩
    rw [← e] at w
    exact Int32.lt_irrefl w
theorem ck417 {n6 : Nat} {b : Nat} (hk6 : k < n6) (hn6 : n6 ≤ 150) (hx6 : x6 = nI n6) (hb : x17 = 1 → b < nB ∧ L 3 k = nI b) (hn : nB < 100) (g0 : (x17 = 1 → t ≤ hB b) → wb_L_law_454 cl nB nD hB hD K46 K207 k0 B V A2 V2 L x6 x7 t x11 x12 (nI k) x15 x16 x17 0) (g1 : x17 = 1 → ¬ t ≤ hB b → wb_L_law_454 cl nB nD hB hD K46 K207 k0 B V A2 V2 L x6 x7 t x11 x12 (nI k) x15 x16 x17 1) : wb_L_law_417 cl nB nD hB hD K46 K207 k0 B V A2 V2 L x6 x7 t x11 x12 (nI k) x15 x16 x17 1 := by
  unfold wb_L_law_417
  refine ⟨fun _ => ⟨fun q => g0 (fun w => absurd w q), fun q => ?_⟩, fun q => absurd q (by decide)⟩
  obtain ⟨hb1, hb2⟩ := hb q
  rw [hx6, nI_clamp (by omega), nI_clamp (by omega), hb2, nI_clamp (by omega)]
  rw [← hx6]
  exact ⟨vp_in_nI hk6 (by omega), vp_in_nI hb1 (by omega), fun w => g0 (fun _ => w), fun w => g1 q w⟩
theorem ck393 (h : x17 = 4 ∧ x15 = 5 ∧ ¬ (30 : Int32) < t) (g : wb_L_law_417 cl nB nD hB hD K46 K207 k0 B V A2 V2 L x6 x7 t x11 x12 (nI k) x15 x16 x17 1) : wb_L_law_393 cl nB nD hB hD K46 K207 k0 B V A2 V2 L x6 x7 t x11 x12 (nI k) x15 x16 x17 := by
  obtain ⟨h1, h2, h3⟩ := h
  unfold wb_L_law_393
  exact ⟨fun q => absurd h1 q, fun _ => ⟨fun q => absurd h2 q, fun _ => ⟨fun q => absurd q h3, fun _ => g⟩⟩⟩
theorem ck375 (h : (x17 = 1 ∧ (x15 = 2 ∨ x15 = 3)) ∨ (x17 = 4 ∧ x15 = 5 ∧ ¬ (30 : Int32) < t)) (g : wb_L_law_417 cl nB nD hB hD K46 K207 k0 B V A2 V2 L x6 x7 t x11 x12 (nI k) x15 x16 x17 1) : wb_L_law_375 cl nB nD hB hD K46 K207 k0 B V A2 V2 L x6 x7 t x11 x12 (nI k) x15 x16 x17 := by
  unfold wb_L_law_375
  refine ⟨fun q => ck393 (h.elim (fun w => absurd w.1 q) id) g, fun q => ⟨fun _ => g, fun w => ⟨fun _ => g, fun z => ?_⟩⟩⟩
  rcases h with ⟨_, e | e⟩ | ⟨e, _⟩
  · exact absurd e w
  · exact absurd e z
  · rw [q] at e; exact absurd e (by decide)
end CHK
/-- covered hours, as the law counts them -/
def covI (t : Int32) (A : SA) (l : Nat) : Int32 := if A 12 l = 1 ∧ ¬ t ≤ A 1 (A 14 l).toNatClampNeg then wsH t A l else 0
theorem wsH_3 {N : Nat → Nat} {A : SA} {V : SV} {t : Int32} {k : Nat} (hI : IV N A V) (hk : k < N 3) (h : ¬ wsH t A k < 3) : wsH t A k = 3 := by
  obtain ⟨_, _, _, _, _, _, ⟨q, hq, a15⟩, _⟩ := hI.2.2.2 k hk
  unfold wsH at h ⊢
  by_cases c : t < A 4 (A 9 k).toNatClampNeg
  · rw [if_pos c] at h; exact absurd (by decide) h
  · rw [if_neg c, a15, nI_1] at h ⊢
    rw [show (3 : Int32) = nI 3 from rfl, nI_ltI (by omega) (by omega)] at h
    rw [show q + 1 = 3 by omega]; rfl
theorem n2_of {x : Int32} {n : Nat} (hx : x = nI n) (hn : n < 2 ^ 31) (h : x < 3) : ¬ (2 : Int32) < x := by
  subst hx
  rw [show (3 : Int32) = nI 3 from rfl, nI_ltI (by omega) (by omega)] at h
  rw [show (2 : Int32) = nI 2 from rfl, nI_ltI (by omega) (by omega)]
  omega
theorem wsH_n {N : Nat → Nat} {A : SA} {V : SV} {t : Int32} {k : Nat} (hI : IV N A V) (hk : k < N 3) : ∃ n, n ≤ 3 ∧ wsH t A k = nI n := by
  obtain ⟨_, _, _, _, _, _, ⟨q, hq, a15⟩, _⟩ := hI.2.2.2 k hk
  unfold wsH
  by_cases c : t < A 4 (A 9 k).toNatClampNeg
  · rw [if_pos c]; exact ⟨0, by omega, rfl⟩
  · rw [if_neg c, a15, nI_1]; exact ⟨q + 1, by omega, rfl⟩
theorem sub2_le {g g2 : Nat} (h1 : g < 1000) (h2 : g ≤ g2 + 2) (h3 : g2 ≤ g) : ¬ nI g2 < nI g - 2 ∧ ¬ nI g + 0 < nI g2 := by
  constructor
  · rw [Int32.lt_iff_toInt_lt, nI_toInt (by omega), show (nI g - (2 : Int32)).toInt = (g : Int) - (2 : Nat) from pk_sub_toInt (a := g) (b := 2) (by omega) (by omega)]
    omega
  · rw [Int32.add_zero, nI_ltI (by omega) (by omega)]
    omega
