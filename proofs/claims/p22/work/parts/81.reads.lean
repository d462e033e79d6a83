/-! what the class's reading methods answer -/
theorem nI_xor (a b : Nat) : nI a ^^^ nI b = nI (a ^^^ b) := by
  apply Int32.toBitVec_inj.mp
  show BitVec.ofNat 32 a ^^^ BitVec.ofNat 32 b = BitVec.ofNat 32 (a ^^^ b)
  apply BitVec.eq_of_toNat_eq
  simp [Nat.xor_mod_two_pow]
theorem sp_has0 {A : SA} {V : SV} {x : Int32} {Q : Int32 → SA → SV → Prop} (h : Q (hasI (V 1) x) A V) : wpX0_has A V x Q := by
  unfold hasI at h
  refine ⟨fun h1 => ?_, fun h1 => ⟨fun h2 => ?_, fun h2 => ?_⟩⟩
  · rw [if_pos h1] at h; exact h
  · rw [if_neg h1, if_pos h2] at h; exact h
  · rw [if_neg h1, if_neg h2] at h; exact h
theorem sp_has1 {A : SA} {V : SV} {x : Int32} {Q : Int32 → SA → SV → Prop} (h : Q (hasI (V 2) x) A V) : wpX1_has A V x Q := by
  unfold hasI at h
  refine ⟨fun h1 => ?_, fun h1 => ⟨fun h2 => ?_, fun h2 => ?_⟩⟩
  · rw [if_pos h1] at h; exact h
  · rw [if_neg h1, if_pos h2] at h; exact h
  · rw [if_neg h1, if_neg h2] at h; exact h
theorem sp_has2 {A : SA} {V : SV} {x : Int32} {Q : Int32 → SA → SV → Prop} (h : Q (hasI (V 3) x) A V) : wpX2_has A V x Q := by
  unfold hasI at h
  refine ⟨fun h1 => ?_, fun h1 => ⟨fun h2 => ?_, fun h2 => ?_⟩⟩
  · rw [if_pos h1] at h; exact h
  · rw [if_neg h1, if_pos h2] at h; exact h
  · rw [if_neg h1, if_neg h2] at h; exact h
theorem sp_isUnder {A : SA} {V : SV} {n b : Nat} {t : Int32} {Q : Int32 → SA → SV → Prop} (hV : V 1 = nI n) (hn : n ≤ 10) (hb : b < n) (h : Q (if t ≤ A 1 b then 0 else 1) A V) : wpX0_isUnder A V (nI b) t Q := by
  refine ⟨fun h1 => absurd h1 (nI_nn (by omega)), fun _ => ⟨fun h2 => ?_, fun _ => ⟨vp_in_nI (by omega) (by omega), fun h3 => ?_, fun h3 => ?_⟩⟩⟩
  · rw [hV, nI_leI (by omega) (by omega)] at h2; omega
  · rw [nI_clamp (by omega)] at h3; rw [if_pos h3] at h; exact h
  · rw [nI_clamp (by omega)] at h3; rw [if_neg h3] at h; exact h
theorem sp_heightOf {A : SA} {V : SV} {n o : Nat} {Q : Int32 → SA → SV → Prop} (hV : V 2 = nI n) (hn : n ≤ 16) (ho : o < n) (h : Q (A 4 o) A V) : wpX1_heightOf A V (nI o) Q := by
  unfold wpX1_heightOf wb_X1_heightOf_0
  refine sp_has1 ?_
  rw [hV, hasI_t ho (by omega)]
  refine ⟨fun h1 => absurd h1 (by decide), fun _ => ⟨vp_in_nI (by omega) (by omega), ?_⟩⟩
  rw [nI_clamp (by omega)]
  exact h
theorem sp_floorMod {a d : Nat} {Q : Int32 → Prop} (ha : a < 2 ^ 31) (h0 : 0 < d) (hd : d < 2 ^ 31) (h : Q (nI (a % d))) : wpJ9_floorMod_7cf53 (nI a) (nI d) Q := by
  refine ⟨nI_ne0 h0 hd, fun _ => ?_, fun h1 => ?_⟩
  · rw [pk_rem ha h0 hd]; exact h
  · rw [nI_xor] at h1
    exact absurd (nI_pos' (Nat.xor_lt_two_pow ha hd)) h1
theorem sp_heightIn {A : SA} {V : SV} {n k : Nat} {Q : Int32 → SA → SV → Prop} (hV : V 0 = nI n) (h1 : 1 ≤ n) (hn : n ≤ 30) (hk : k < 2 ^ 31) (h : Q (A 0 (k % n)) A V) : wpX4_heightIn A V (nI k) Q := by
  have hm : k % n < n := Nat.mod_lt _ (by omega)
  refine ⟨fun _ => ?_, fun h2 => absurd ?_ h2⟩
  · rw [hV]
    refine sp_floorMod hk (by omega) (by omega) ⟨vp_in_nI (by omega) (by omega), ?_⟩
    rw [nI_clamp (by omega)]
    exact h
  · rw [hV]
    exact (nI_leI (a := 1) (by omega) (by omega)).mpr h1
theorem sp_tideNow {A : SA} {V : SV} {n k : Nat} {Q : Int32 → SA → SV → Prop} (hV : V 0 = nI n) (hV4 : V 4 = nI k) (h1 : 1 ≤ n) (hn : n ≤ 30) (hk : k < 2 ^ 31) (h : Q (A 0 (k % n)) A V) : wpX3_tideNow A V Q := by
  show wpX4_heightIn A V (V 4) _
  rw [hV4]
  exact sp_heightIn hV h1 hn hk h
theorem sp_inState {A : SA} {V : SV} {n : Nat} {x : Int32} {Q : Int32 → SA → SV → Prop} (hV : V 3 = nI n) (hn : n ≤ 150) (h : Q (nI (cnt (fun l => decide (A 12 l = x)) n)) A V) : wpX2_inState A V x Q := by
  refine ⟨n - 0 + 1, ?_⟩
  refine up_loop (P := fun f j => wl_X2_inState_4 Q f A V x (nI (cnt (fun l => decide (A 12 l = x)) j)) (nI j)) (fun f => ?_) (fun f j hj ih => ?_) 0 (Nat.zero_le _)
  · refine ⟨fun _ => h, fun hc => absurd ?_ hc⟩
    rw [hV]; exact Int32.le_refl _
  · refine ⟨fun hc => ?_, fun _ => ⟨vp_in_nI (by omega) (by omega), fun hx => ?_, fun hx => ?_⟩⟩
    · rw [hV, nI_leI (by omega) (by omega)] at hc; omega
    · rw [nI_clamp (by omega)] at hx
      unfold cnt at ih
      rw [decide_eq_false hx, if_neg (by decide), Nat.add_zero] at ih
      rw [nI_1]; exact ih
    · rw [nI_clamp (by omega)] at hx
      unfold cnt at ih
      rw [decide_eq_true hx, if_pos rfl] at ih
      rw [nI_1, nI_1]; exact ih
theorem sp_growthIn {A : SA} {V : SV} {n : Nat} {x : Int32} {Q : Int32 → SA → SV → Prop} (hV : V 3 = nI n) (hn : n ≤ 150) (h : Q (sumI (fun l => if A 12 l = 1 ∧ A 14 l = x then A 13 l else 0) n) A V) : wpX2_growthIn A V x Q := by
  refine ⟨n - 0 + 1, ?_⟩
  refine up_loop (P := fun f j => wl_X2_growthIn_4 Q f A V x (sumI (fun l => if A 12 l = 1 ∧ A 14 l = x then A 13 l else 0) j) (nI j)) (fun f => ?_) (fun f j hj ih => ?_) 0 (Nat.zero_le _)
  · refine ⟨fun _ => h, fun hc => absurd ?_ hc⟩
    rw [hV]; exact Int32.le_refl _
  · have hin : vp_in (nI j) 150 := vp_in_nI (by omega) (by omega)
    unfold sumI at ih
    refine ⟨fun hc => ?_, fun _ => ⟨hin, fun hx => ?_, fun hx => ⟨hin, fun hy => ?_, fun hy => ⟨hin, ?_⟩⟩⟩⟩
    · rw [hV, nI_leI (by omega) (by omega)] at hc; omega
    · rw [nI_clamp (by omega)] at hx
      rw [if_neg (fun q => hx q.1), Int32.add_zero] at ih
      rw [nI_1]; exact ih
    · rw [nI_clamp (by omega)] at hy
      rw [if_neg (fun q => hy q.2), Int32.add_zero] at ih
      rw [nI_1]; exact ih
    · rw [nI_clamp (by omega)] at hx hy ⊢
      rw [if_pos ⟨hx, hy⟩] at ih
      rw [nI_1]; exact ih
/-- a round of a choice: what the best is behind j -/
theorem bst_s0 {ok : Nat → Bool} {bt : Nat → Nat → Bool} {j : Nat} (h : ok j = false) : bst ok bt (j + 1) = bst ok bt j := by
  rw [bst, h]; rfl
theorem bst_s1 {ok : Nat → Bool} {bt : Nat → Nat → Bool} {j : Nat} (h : ok j = true) (h2 : bst ok bt j = none) : bst ok bt (j + 1) = some j := by
  rw [bst, h, h2]; rfl
theorem bst_s2 {ok : Nat → Bool} {bt : Nat → Nat → Bool} {j k : Nat} (h : ok j = true) (h2 : bst ok bt j = some k) (h3 : bt j k = true) : bst ok bt (j + 1) = some j := by
  rw [bst, h, h2]; simp [h3]
theorem bst_s3 {ok : Nat → Bool} {bt : Nat → Nat → Bool} {j k : Nat} (h : ok j = true) (h2 : bst ok bt j = some k) (h3 : bt j k = false) : bst ok bt (j + 1) = some k := by
  rw [bst, h, h2]; simp [h3]
abbrev okH (A : SA) : Nat → Bool := fun l => decide (A 12 l = 0)
abbrev btH (A : SA) : Nat → Nat → Bool := fun l k => decide (¬ A 10 l ≤ A 10 k)
theorem sp_heaviest {A : SA} {V : SV} {n : Nat} {Q : Int32 → SA → SV → Prop} (hV : V 3 = nI n) (hn : n ≤ 150) (h : Q (oI (bst (okH A) (btH A) n)) A V) : wpX2_heaviestInOffice A V Q := by
  refine ⟨n - 0 + 1, ?_⟩
  refine up_loop (P := fun f j => wl_X2_heaviestInOffice_4 Q f A V (oI (bst (okH A) (btH A) j)) (nI j)) (fun f => ?_) (fun f j hj ih => ?_) 0 (Nat.zero_le _)
  · refine ⟨fun _ => h, fun hc => absurd ?_ hc⟩
    rw [hV]; exact Int32.le_refl _
  · have hin : vp_in (nI j) 150 := vp_in_nI (by omega) (by omega)
    refine ⟨fun hc => ?_, fun _ => ⟨hin, fun hx => ?_, fun hx => ⟨fun hy => ?_, fun hy => ⟨hin, ?_⟩⟩⟩⟩
    · rw [hV, nI_leI (by omega) (by omega)] at hc; omega
    · rw [nI_clamp (by omega)] at hx
      rw [bst_s0 (decide_eq_false hx)] at ih
      rw [nI_1]; exact ih
    · rw [nI_clamp (by omega)] at hx
      cases hb : bst (okH A) (btH A) j with
      | some k =>
        rw [hb] at hy
        have := (bst_lt hb).1
        exact absurd hy (nI_m1 (by omega))
      | none =>
        rw [bst_s1 (decide_eq_true hx) hb] at ih
        rw [nI_1]; exact ih
    · rw [nI_clamp (by omega)] at hx
      cases hb : bst (okH A) (btH A) j with
      | none => rw [hb] at hy; exact absurd rfl hy
      | some k =>
        have hk := (bst_lt hb).1
        show vp_in (nI k) 150 ∧ _
        refine ⟨vp_in_nI (by omega) (by omega), fun hz => ?_, fun hz => ?_⟩
        · rw [nI_clamp (by omega)] at hz
          have hz : A 10 j ≤ A 10 (nI k).toNatClampNeg := hz
          rw [nI_clamp (by omega)] at hz
          rw [bst_s3 (decide_eq_true hx) hb (decide_eq_false (fun q => q hz))] at ih
          rw [nI_1]; exact ih
        · rw [nI_clamp (by omega)] at hz
          have hz : ¬ A 10 j ≤ A 10 (nI k).toNatClampNeg := hz
          rw [nI_clamp (by omega)] at hz
          rw [bst_s2 (decide_eq_true hx) hb (decide_eq_true hz)] at ih
          rw [nI_1]; exact ih
def absI (x : Int32) : Int32 := if 0 ≤ x then x else 0 - x
def nearI (h k w : Int32) : Bool := if absI (h - w) < absI (k - w) then true else if absI (h - w) = absI (k - w) then decide (¬ k ≤ h) else false
theorem sp_isNearer {A : SA} {V : SV} {b k : Nat} {w : Int32} {Q : Int32 → SA → SV → Prop} (hb : b < 10) (hk : k < 10) (h : Q (if nearI (A 1 b) (A 1 k) w then 1 else 0) A V) : wpX0_isNearer A V (nI b) (nI k) w Q := by
  have h1 : vp_in (nI b) 10 := vp_in_nI hb (by omega)
  have h2 : vp_in (nI k) 10 := vp_in_nI hk (by omega)
  unfold wpX0_isNearer wb_X0_isNearer_0
  rw [nI_clamp (by omega), nI_clamp (by omega)]
  unfold nearI at h
  refine ⟨h1, h2, fun h3 => ?_, fun h3 => ⟨fun h4 => ?_, fun h4 => ⟨h1, h2, fun h5 => ?_, fun h5 => ?_⟩⟩⟩
  · have h3 : absI (A 1 b - w) < absI (A 1 k - w) := h3
    rw [if_pos h3] at h; exact h
  · have h3 : ¬ absI (A 1 b - w) < absI (A 1 k - w) := h3
    have h4 : ¬ absI (A 1 b - w) = absI (A 1 k - w) := h4
    rw [if_neg h3, if_neg h4] at h; exact h
  · have h3 : ¬ absI (A 1 b - w) < absI (A 1 k - w) := h3
    have h4 : absI (A 1 b - w) = absI (A 1 k - w) := h4
    rw [if_neg h3, if_pos h4, decide_eq_false (fun q => q h5)] at h; exact h
  · have h3 : ¬ absI (A 1 b - w) < absI (A 1 k - w) := h3
    have h4 : absI (A 1 b - w) = absI (A 1 k - w) := h4
    rw [if_neg h3, if_pos h4, decide_eq_true h5] at h; exact h
abbrev okN (A : SA) : Nat → Bool := fun b => decide (¬ A 2 b ≤ A 3 b)
abbrev btN (A : SA) (w : Int32) : Nat → Nat → Bool := fun b k => nearI (A 1 b) (A 1 k) w
theorem sp_nearest {A : SA} {V : SV} {n : Nat} {w : Int32} {Q : Int32 → SA → SV → Prop} (hV : V 1 = nI n) (hn : n ≤ 10) (h : Q (oI (bst (okN A) (btN A w) n)) A V) : wpX0_nearestWithRoom A V w Q := by
  refine ⟨n - 0 + 1, ?_⟩
  refine up_loop (P := fun f j => wl_X0_nearestWithRoom_4 Q f A V w (oI (bst (okN A) (btN A w) j)) (nI j)) (fun f => ?_) (fun f j hj ih => ?_) 0 (Nat.zero_le _)
  · refine ⟨fun _ => h, fun hc => absurd ?_ hc⟩
    rw [hV]; exact Int32.le_refl _
  · have hin : vp_in (nI j) 10 := vp_in_nI (by omega) (by omega)
    refine ⟨fun hc => ?_, fun _ => ⟨hin, hin, fun hx => ?_, fun hx => ⟨fun hy => ?_, fun hy => ?_⟩⟩⟩
    · rw [hV, nI_leI (by omega) (by omega)] at hc; omega
    · rw [nI_clamp (by omega)] at hx
      rw [bst_s0 (decide_eq_false (fun q => q hx))] at ih
      rw [nI_1]; exact ih
    · rw [nI_clamp (by omega)] at hx
      cases hb : bst (okN A) (btN A w) j with
      | some k =>
        rw [hb] at hy
        have := (bst_lt hb).1
        exact absurd hy (nI_m1 (by omega))
      | none =>
        rw [bst_s1 (decide_eq_true hx) hb] at ih
        rw [nI_1]; exact ih
    · rw [nI_clamp (by omega)] at hx
      cases hb : bst (okN A) (btN A w) j with
      | none => rw [hb] at hy; exact absurd rfl hy
      | some k =>
        have hk := (bst_lt hb).1
        refine sp_isNearer (k := k) (by omega) (by omega) ?_
        cases hz : nearI (A 1 j) (A 1 k) w with
        | false =>
          rw [bst_s3 (decide_eq_true hx) hb hz] at ih
          refine ⟨fun _ => ?_, fun q => absurd rfl q⟩
          rw [nI_1]; exact ih
        | true =>
          rw [bst_s2 (decide_eq_true hx) hb hz] at ih
          refine ⟨fun q => absurd q (by decide), fun _ => ?_⟩
          rw [nI_1]; exact ih
theorem sp_fact1 {A : SA} {V : SV} {n j k : Nat} {Q : Int32 → SA → SV → Prop} (hV : V 2 = nI n) (hn : n ≤ 16) (hj : j < n) (hk : k < 5) (h : Q (A (4 + k) j) A V) : wpX1_fact A V (nI j) (nI k) Q := by
  unfold wpX1_fact wb_X1_fact_0
  refine sp_has1 ?_
  rw [hV, hasI_t hj (by omega)]
  have hin : vp_in (nI j) 16 := vp_in_nI (by omega) (by omega)
  refine ⟨fun _ => ?_, fun q => absurd q (by decide)⟩
  rw [nI_clamp (by omega)]
  rcases (show k = 0 ∨ k = 1 ∨ k = 2 ∨ k = 3 ∨ k = 4 by omega) with rfl | rfl | rfl | rfl | rfl
  · exact ⟨fun _ => ⟨hin, h⟩, fun q => absurd rfl q⟩
  · exact ⟨fun q => absurd q (by decide), fun _ => ⟨fun _ => ⟨hin, h⟩, fun q => absurd rfl q⟩⟩
  · exact ⟨fun q => absurd q (by decide), fun _ => ⟨fun q => absurd q (by decide), fun _ => ⟨fun _ => ⟨hin, h⟩, fun q => absurd rfl q⟩⟩⟩
  · exact ⟨fun q => absurd q (by decide), fun _ => ⟨fun q => absurd q (by decide), fun _ => ⟨fun q => absurd q (by decide), fun _ => ⟨fun _ => ⟨hin, h⟩, fun q => absurd rfl q⟩⟩⟩⟩
  · exact ⟨fun q => absurd q (by decide), fun _ => ⟨fun q => absurd q (by decide), fun _ => ⟨fun q => absurd q (by decide), fun _ => ⟨fun q => absurd q (by decide), fun _ => ⟨fun _ => ⟨hin, h⟩, fun q => absurd rfl q⟩⟩⟩⟩⟩
theorem sp_fact2 {A : SA} {V : SV} {n j k : Nat} {Q : Int32 → SA → SV → Prop} (hV : V 3 = nI n) (hn : n ≤ 150) (hj : j < n) (hk : k < 9) (h : Q (A (9 + k) j) A V) : wpX2_fact A V (nI j) (nI k) Q := by
  unfold wpX2_fact wb_X2_fact_0
  refine sp_has2 ?_
  rw [hV, hasI_t hj (by omega)]
  have hin : vp_in (nI j) 150 := vp_in_nI (by omega) (by omega)
  refine ⟨fun _ => ?_, fun q => absurd q (by decide)⟩
  rw [nI_clamp (by omega)]
  rcases (show k = 0 ∨ k = 1 ∨ k = 2 ∨ k = 3 ∨ k = 4 ∨ k = 5 ∨ k = 6 ∨ k = 7 ∨ k = 8 by omega) with rfl | rfl | rfl | rfl | rfl | rfl | rfl | rfl | rfl
  · exact ⟨fun _ => ⟨hin, h⟩, fun q => absurd rfl q⟩
  · exact ⟨fun q => absurd q (by decide), fun _ => ⟨fun _ => ⟨hin, h⟩, fun q => absurd rfl q⟩⟩
  · exact ⟨fun q => absurd q (by decide), fun _ => ⟨fun q => absurd q (by decide), fun _ => ⟨fun _ => ⟨hin, h⟩, fun q => absurd rfl q⟩⟩⟩
  · exact ⟨fun q => absurd q (by decide), fun _ => ⟨fun q => absurd q (by decide), fun _ => ⟨fun q => absurd q (by decide), fun _ => ⟨fun _ => ⟨hin, h⟩, fun q => absurd rfl q⟩⟩⟩⟩
  · exact ⟨fun q => absurd q (by decide), fun _ => ⟨fun q => absurd q (by decide), fun _ => ⟨fun q => absurd q (by decide), fun _ => ⟨fun q => absurd q (by decide), fun _ => ⟨fun _ => ⟨hin, h⟩, fun q => absurd rfl q⟩⟩⟩⟩⟩
  · exact ⟨fun q => absurd q (by decide), fun _ => ⟨fun q => absurd q (by decide), fun _ => ⟨fun q => absurd q (by decide), fun _ => ⟨fun q => absurd q (by decide), fun _ => ⟨fun q => absurd q (by decide), fun _ => ⟨fun _ => ⟨hin, h⟩, fun q => absurd rfl q⟩⟩⟩⟩⟩⟩
  · exact ⟨fun q => absurd q (by decide), fun _ => ⟨fun q => absurd q (by decide), fun _ => ⟨fun q => absurd q (by decide), fun _ => ⟨fun q => absurd q (by decide), fun _ => ⟨fun q => absurd q (by decide), fun _ => ⟨fun q => absurd q (by decide), fun _ => ⟨fun _ => ⟨hin, h⟩, fun q => absurd rfl q⟩⟩⟩⟩⟩⟩⟩
  · exact ⟨fun q => absurd q (by decide), fun _ => ⟨fun q => absurd q (by decide), fun _ => ⟨fun q => absurd q (by decide), fun _ => ⟨fun q => absurd q (by decide), fun _ => ⟨fun q => absurd q (by decide), fun _ => ⟨fun q => absurd q (by decide), fun _ => ⟨fun q => absurd q (by decide), fun _ => ⟨fun _ => ⟨hin, h⟩, fun q => absurd rfl q⟩⟩⟩⟩⟩⟩⟩⟩
  · exact ⟨fun q => absurd q (by decide), fun _ => ⟨fun q => absurd q (by decide), fun _ => ⟨fun q => absurd q (by decide), fun _ => ⟨fun q => absurd q (by decide), fun _ => ⟨fun q => absurd q (by decide), fun _ => ⟨fun q => absurd q (by decide), fun _ => ⟨fun q => absurd q (by decide), fun _ => ⟨fun q => absurd q (by decide), fun _ => ⟨fun _ => ⟨hin, h⟩, fun q => absurd rfl q⟩⟩⟩⟩⟩⟩⟩⟩⟩

