/-! what the reference's reading methods answer -/
theorem nI_9 (l k : Nat) : ((9 : Int32) * nI l) + nI k = nI (9 * l + k) := by
  rw [show (9 : Int32) = nI 9 from rfl, pk_mul, nI_add]
theorem nI_5 (o k : Nat) : ((5 : Int32) * nI o) + nI k = nI (5 * o + k) := by
  rw [show (5 : Int32) = nI 5 from rfl, pk_mul, nI_add]
theorem nI_2 (b k : Nat) : ((2 : Int32) * nI b) + nI k = nI (2 * b + k) := by
  rw [show (2 : Int32) = nI 2 from rfl, pk_mul, nI_add]
theorem nI_20 (b : Nat) : ((2 : Int32) * nI b) = nI (2 * b) := by
  rw [show (2 : Int32) = nI 2 from rfl, pk_mul]
theorem sp_get {A : SA} {V : SV} {l k : Nat} {Q : Int32 → SA → SV → Prop} (hl : l < 150) (hk : k < 9) (h : Q (A 3 (9 * l + k)) A V) : wpX6_get A V (nI l) (nI k) Q := by
  unfold wpX6_get wb_X6_get_0
  rw [nI_9, nI_clamp (by omega)]
  exact ⟨vp_in_nI (by omega) (by omega), h⟩
theorem sp_set {A : SA} {V : SV} {l k : Nat} {v : Int32} {Q : SA → SV → Prop} (hl : l < 150) (hk : k < 9) (h : Q (up A 3 (9 * l + k) v) V) : wpX6_set A V (nI l) (nI k) v Q := by
  unfold wpX6_set wb_X6_set_0
  rw [nI_9, nI_clamp (by omega)]
  refine ⟨vp_in_nI (by omega) (by omega), fun A1 e => ?_⟩
  rw [e]; exact h
theorem sp_isS {A : SA} {V : SV} {l : Nat} {x : Int32} {Q : Int32 → SA → SV → Prop} (hl : l < 150) (h : Q (if A 3 (9 * l + 3) = x then 1 else 0) A V) : wpX6_isIn_ A V (nI l) x Q := by
  unfold wpX6_isIn_ wb_X6_isIn__0
  refine sp_get (k := 3) hl (by omega) ⟨fun h1 => ?_, fun h1 => ?_⟩
  · rw [if_neg h1] at h; exact h
  · rw [if_pos h1] at h; exact h
theorem sp_one {A : SA} {V : SV} {o k : Nat} {Q : Int32 → SA → SV → Prop} (ho : o < 16) (hk : k < 5) (h : Q (A 2 (5 * o + k)) A V) : wpX6_one A V (nI o) (nI k) Q := by
  unfold wpX6_one wb_X6_one_0
  rw [nI_5, nI_clamp (by omega)]
  exact ⟨vp_in_nI (by omega) (by omega), h⟩
theorem sp_tideOf {A : SA} {V : SV} {n k : Nat} {Q : Int32 → SA → SV → Prop} (hV : V 2 = nI n) (h1 : 1 ≤ n) (hn : n ≤ 30) (hk : k < 2 ^ 31) (h : Q (A 0 (k % n)) A V) : wpX6_tideOf A V (nI k) Q := by
  have hm : k % n < n := Nat.mod_lt _ (by omega)
  unfold wpX6_tideOf wb_X6_tideOf_0
  rw [hV, pk_rem hk (by omega) (by omega), nI_clamp (by omega)]
  exact ⟨nI_ne0 (by omega) (by omega), vp_in_nI (by omega) (by omega), h⟩
theorem sp_isUnder6 {A : SA} {V : SV} {b : Nat} {t : Int32} {Q : Int32 → SA → SV → Prop} (hb : b < 10) (h : Q (if t ≤ A 1 (2 * b) then 0 else 1) A V) : wpX6_isUnder A V (nI b) t Q := by
  unfold wpX6_isUnder wb_X6_isUnder_0
  rw [nI_20, nI_clamp (by omega)]
  refine ⟨vp_in_nI (by omega) (by omega), fun h1 => ?_, fun h1 => ?_⟩
  · rw [if_pos h1] at h; exact h
  · rw [if_neg h1] at h; exact h
def inI (x lo hi : Int32) : Int32 := if x < lo then 0 else if hi < x then 0 else 1
theorem inI_01 (x lo hi : Int32) : inI x lo hi = 0 ∨ inI x lo hi = 1 := by
  unfold inI
  split
  · exact Or.inl rfl
  · split
    · exact Or.inl rfl
    · exact Or.inr rfl
theorem sp_isIn {x lo hi : Int32} {Q : Int32 → Prop} (h : Q (inI x lo hi)) : wpX6_isIn x lo hi Q := by
  unfold inI at h
  refine ⟨fun h1 => ?_, fun h1 => ⟨fun h2 => ?_, fun h2 => ?_⟩⟩
  · rw [if_pos h1] at h; exact h
  · rw [if_neg h1, if_pos h2] at h; exact h
  · rw [if_neg h1, if_neg h2] at h; exact h
theorem sp_isHeight {x : Int32} {Q : Int32 → Prop} (h : Q (inI x 0 99)) : wpX6_isHeight x Q := by
  unfold wpX6_isHeight wb_X6_isHeight_0
  exact sp_isIn ⟨inI_01 _ _ _, h⟩
theorem inI_has (x : Int32) {n : Nat} (hn : n < 2 ^ 30) : inI x 0 (nI n - 1) = hasI (nI n) x := by
  have h1 : (nI n - nI 1).toInt = (n : Int) - (1 : Nat) := pk_sub_toInt (by omega) (by omega)
  have h2 : (nI n).toInt = (n : Int) := nI_toInt (by omega)
  have h3 : (nI n - 1 < x) ↔ (nI n ≤ x) := by
    rw [Int32.lt_iff_toInt_lt, Int32.le_iff_toInt_le]
    show (nI n - nI 1).toInt < x.toInt ↔ _
    rw [h1, h2]
    omega
  unfold inI hasI
  by_cases h0 : x < 0
  · rw [if_pos h0, if_pos h0]
  · rw [if_neg h0, if_neg h0]
    by_cases h4 : nI n ≤ x
    · rw [if_pos (h3.mpr h4), if_pos h4]
    · rw [if_neg (fun q => h4 (h3.mp q)), if_neg h4]
theorem sp_isOne {A : SA} {V : SV} {n : Nat} {x : Int32} {Q : Int32 → SA → SV → Prop} (hV : V 4 = nI n) (hn : n ≤ 16) (h : Q (hasI (nI n) x) A V) : wpX6_isOne A V x Q := by
  unfold wpX6_isOne wb_X6_isOne_0
  rw [hV]
  refine sp_isIn ⟨inI_01 _ _ _, ?_⟩
  rw [inI_has x (by omega)]; exact h
theorem sp_isLetter {A : SA} {V : SV} {n : Nat} {x : Int32} {Q : Int32 → SA → SV → Prop} (hV : V 5 = nI n) (hn : n ≤ 150) (h : Q (hasI (nI n) x) A V) : wpX6_isLetter A V x Q := by
  unfold wpX6_isLetter wb_X6_isLetter_0
  rw [hV]
  refine sp_isIn ⟨inI_01 _ _ _, ?_⟩
  rw [inI_has x (by omega)]; exact h
theorem sp_fail {A : SA} {V : SV} {x : Int32} {Q : Int32 → SA → SV → Prop} (h : Q 0 A (uv V 0 x)) : wpX6_fail A V x Q := by
  intro V1 e
  rw [e]; exact h
def lvM (A : SA) (l : Nat) (st : Int32) : SA := up (up (up A 3 (9 * l + 3) st) 3 (9 * l + 5) (-1)) 3 (9 * l + 6) 0
theorem sp_leave {A : SA} {V : SV} {l : Nat} {st : Int32} {Q : Int32 → SA → SV → Prop} (hl : l < 150) (h : Q (A 3 (9 * l + 5)) (lvM A l st) V) : wpX6_leave A V (nI l) st Q := by
  unfold wpX6_leave wb_X6_leave_0
  exact sp_get (k := 5) hl (by omega) (sp_set (k := 3) hl (by omega) (sp_set (k := 5) hl (by omega) (sp_set (k := 6) hl (by omega) h)))
theorem sp_many {A : SA} {V : SV} {n : Nat} {x : Int32} {Q : Int32 → SA → SV → Prop} (hV : V 5 = nI n) (hn : n ≤ 150) (h : Q (nI (cnt (fun l => decide (A 3 (9 * l + 3) = x)) n)) A V) : wpX6_many A V x Q := by
  refine ⟨n - 0 + 1, ?_⟩
  refine up_loop (P := fun f j => wl_X6_many_4 Q f A V x (nI (cnt (fun l => decide (A 3 (9 * l + 3) = x)) j)) (nI j)) (fun f => ?_) (fun f j hj ih => ?_) 0 (Nat.zero_le _)
  · refine ⟨fun _ => h, fun hc => absurd ?_ hc⟩
    rw [hV]; exact Int32.le_refl _
  · unfold cnt at ih
    refine ⟨fun hc => ?_, fun _ => ?_⟩
    · rw [hV, nI_leI (by omega) (by omega)] at hc; omega
    · refine sp_isS (by omega) ?_
      by_cases hx : A 3 (9 * j + 3) = x
      · rw [decide_eq_true hx, if_pos rfl] at ih
        rw [if_pos hx]
        exact ⟨fun q => absurd q (by decide), fun _ => by rw [nI_1, nI_1]; exact ih⟩
      · rw [decide_eq_false hx, if_neg (by decide), Nat.add_zero] at ih
        rw [if_neg hx]
        exact ⟨fun _ => by rw [Int32.add_zero, nI_1]; exact ih, fun q => absurd rfl q⟩
theorem cnt_s0 {f : Nat → Bool} {j : Nat} (h : f j = false) : cnt f (j + 1) = cnt f j := by
  rw [cnt, h]; rfl
theorem cnt_s1 {f : Nat → Bool} {j : Nat} (h : f j = true) : cnt f (j + 1) = cnt f j + 1 := by
  rw [cnt, h]; rfl
abbrev inB (A : SA) (x : Int32) : Nat → Bool := fun l => decide (A 3 (9 * l + 3) = 1 ∧ A 3 (9 * l + 5) = x)
theorem sp_sumOf1 {A : SA} {V : SV} {n : Nat} {x : Int32} {Q : Int32 → SA → SV → Prop} (hV : V 5 = nI n) (hn : n ≤ 150) (h : Q (nI (cnt (inB A x) n)) A V) : wpX6_sumOf A V x 1 Q := by
  refine ⟨n - 0 + 1, ?_⟩
  refine up_loop (P := fun f j => wl_X6_sumOf_5 Q f A V x 1 (nI (cnt (inB A x) j)) (nI j)) (fun f => ?_) (fun f j hj ih => ?_) 0 (Nat.zero_le _)
  · refine ⟨fun _ => h, fun hc => absurd ?_ hc⟩
    rw [hV]; exact Int32.le_refl _
  · refine ⟨fun hc => ?_, fun _ => ?_⟩
    · rw [hV, nI_leI (by omega) (by omega)] at hc; omega
    · refine sp_isS (by omega) ⟨fun h1 => ?_, fun h1 => sp_get (k := 5) (by omega) (by omega) ⟨fun h2 => ?_, fun h2 => ⟨fun h3 => absurd h3 (by decide), fun _ => ?_⟩⟩⟩
      · by_cases hx : A 3 (9 * j + 3) = 1
        · rw [if_pos hx] at h1; exact absurd h1 (by decide)
        · rw [cnt_s0 (f := inB A x) (decide_eq_false (fun q => hx q.1))] at ih
          rw [nI_1]; exact ih
      · rw [cnt_s0 (f := inB A x) (decide_eq_false (fun q => h2 q.2))] at ih
        rw [nI_1]; exact ih
      · by_cases hx : A 3 (9 * j + 3) = 1
        · rw [cnt_s1 (f := inB A x) (decide_eq_true ⟨hx, h2⟩)] at ih
          rw [nI_1, nI_1]; exact ih
        · rw [if_neg hx] at h1; exact absurd rfl h1
theorem sp_sumOf0 {A : SA} {V : SV} {n : Nat} {x : Int32} {Q : Int32 → SA → SV → Prop} (hV : V 5 = nI n) (hn : n ≤ 150) (h : Q (sumI (fun l => if A 3 (9 * l + 3) = 1 ∧ A 3 (9 * l + 5) = x then A 3 (9 * l + 4) else 0) n) A V) : wpX6_sumOf A V x 0 Q := by
  refine ⟨n - 0 + 1, ?_⟩
  refine up_loop (P := fun f j => wl_X6_sumOf_5 Q f A V x 0 (sumI (fun l => if A 3 (9 * l + 3) = 1 ∧ A 3 (9 * l + 5) = x then A 3 (9 * l + 4) else 0) j) (nI j)) (fun f => ?_) (fun f j hj ih => ?_) 0 (Nat.zero_le _)
  · refine ⟨fun _ => h, fun hc => absurd ?_ hc⟩
    rw [hV]; exact Int32.le_refl _
  · unfold sumI at ih
    refine ⟨fun hc => ?_, fun _ => ?_⟩
    · rw [hV, nI_leI (by omega) (by omega)] at hc; omega
    · refine sp_isS (by omega) ⟨fun h1 => ?_, fun h1 => sp_get (k := 5) (by omega) (by omega) ⟨fun h2 => ?_, fun h2 => ⟨fun _ => ?_, fun h3 => absurd rfl h3⟩⟩⟩
      · by_cases hx : A 3 (9 * j + 3) = 1
        · rw [if_pos hx] at h1; exact absurd h1 (by decide)
        · rw [if_neg (fun q => hx q.1), Int32.add_zero] at ih
          rw [nI_1]; exact ih
      · rw [if_neg (fun q => h2 q.2), Int32.add_zero] at ih
        rw [nI_1]; exact ih
      · by_cases hx : A 3 (9 * j + 3) = 1
        · rw [if_pos ⟨hx, h2⟩] at ih
          refine sp_get (k := 4) (by omega) (by omega) ?_
          rw [nI_1]; exact ih
        · rw [if_neg hx] at h1; exact absurd rfl h1
abbrev okB (A : SA) (n : Nat) : Nat → Bool := fun b => decide (¬ nI (cnt (inB A (nI b)) n) = A 1 (2 * b + 1))
abbrev btB (A : SA) (w : Int32) : Nat → Nat → Bool := fun b k => nearI (A 1 (2 * b)) (A 1 (2 * k)) w
theorem sp_binOf {A : SA} {V : SV} {n nb o : Nat} {Q : Int32 → SA → SV → Prop} (hV : V 5 = nI n) (hn : n ≤ 150) (hV3 : V 3 = nI nb) (hnb : nb ≤ 10) (ho : o < 16) (h : Q (oI (bst (okB A n) (btB A (A 2 (5 * o))) nb)) A V) : wpX6_binOf A V (nI o) Q := by
  refine ⟨nb - 0 + 1, ?_⟩
  refine up_loop (P := fun f j => wl_X6_binOf_4 Q f A V (nI o) (oI (bst (okB A n) (btB A (A 2 (5 * o))) j)) (nI j)) (fun f => ?_) (fun f j hj ih => ?_) 0 (Nat.zero_le _)
  · refine ⟨fun _ => h, fun hc => absurd ?_ hc⟩
    rw [hV3]; exact Int32.le_refl _
  · have e1 : ((2 : Int32) * nI j) + (1 : Int32) = nI (2 * j + 1) := nI_2 j 1
    refine ⟨fun hc => ?_, fun _ => sp_sumOf1 hV hn ?_⟩
    · rw [hV3, nI_leI (by omega) (by omega)] at hc; omega
    · rw [e1, nI_20, nI_clamp (by omega), nI_clamp (by omega)]
      refine ⟨vp_in_nI (by omega) (by omega), fun hx => ⟨vp_in_nI (by omega) (by omega), sp_one (k := 0) ho (by omega) ⟨fun hy => ?_, fun hy => ?_⟩⟩, fun hx => ?_⟩
      · cases hb : bst (okB A n) (btB A (A 2 (5 * o))) j with
        | none => rw [hb] at hy; exact absurd rfl hy
        | some k =>
          have hk := (bst_lt hb).1
          have e2 : (2 : Int32) * oI (some k) = nI (2 * k) := nI_20 k
          rw [e2, nI_clamp (by omega)]
          refine ⟨vp_in_nI (by omega) (by omega), sp_one (k := 0) ho (by omega) ?_⟩
          have e3 := bst_s2 (ok := okB A n) (bt := btB A (A 2 (5 * o))) (decide_eq_true hx) hb
          have e4 := bst_s3 (ok := okB A n) (bt := btB A (A 2 (5 * o))) (decide_eq_true hx) hb
          have e5 : btB A (A 2 (5 * o)) j k = nearI (A 1 (2 * j)) (A 1 (2 * k)) (A 2 (5 * o)) := rfl
          unfold wb_X6_binOf_81
          unfold nearI at e5
          rw [e2, nI_20, nI_clamp (by omega), nI_clamp (by omega)]
          refine ⟨fun q => absurd q (nI_m1 (by omega)), fun _ => ⟨fun q => ?_, fun q => ⟨fun q2 => ?_, fun q2 => ⟨vp_in_nI (by omega) (by omega), vp_in_nI (by omega) (by omega), fun q3 => ?_, fun q3 => ?_⟩⟩⟩⟩
          · have q : absI (A 1 (2 * j) - A 2 (5 * o)) < absI (A 1 (2 * k) - A 2 (5 * o)) := q
            rw [if_pos q] at e5
            rw [e3 e5] at ih
            rw [nI_1]; exact ih
          · have q : ¬ absI (A 1 (2 * j) - A 2 (5 * o)) < absI (A 1 (2 * k) - A 2 (5 * o)) := q
            have q2 : ¬ absI (A 1 (2 * j) - A 2 (5 * o)) = absI (A 1 (2 * k) - A 2 (5 * o)) := q2
            rw [if_neg q, if_neg q2] at e5
            rw [e4 e5] at ih
            rw [nI_1]; exact ih
          · have q : ¬ absI (A 1 (2 * j) - A 2 (5 * o)) < absI (A 1 (2 * k) - A 2 (5 * o)) := q
            have q2 : absI (A 1 (2 * j) - A 2 (5 * o)) = absI (A 1 (2 * k) - A 2 (5 * o)) := q2
            rw [if_neg q, if_pos q2, decide_eq_false (fun z => z q3)] at e5
            rw [e4 e5] at ih
            rw [nI_1]; exact ih
          · have q : ¬ absI (A 1 (2 * j) - A 2 (5 * o)) < absI (A 1 (2 * k) - A 2 (5 * o)) := q
            have q2 : absI (A 1 (2 * j) - A 2 (5 * o)) = absI (A 1 (2 * k) - A 2 (5 * o)) := q2
            rw [if_neg q, if_pos q2, decide_eq_true q3] at e5
            rw [e3 e5] at ih
            rw [nI_1]; exact ih
      · cases hb : bst (okB A n) (btB A (A 2 (5 * o))) j with
        | some k =>
          rw [hb] at hy
          have := (bst_lt hb).1
          exact absurd hy (nI_m1 (by omega))
        | none =>
          rw [bst_s1 (decide_eq_true hx) hb] at ih
          refine ⟨fun _ => ?_, fun q => absurd rfl q⟩
          rw [nI_1]; exact ih
      · rw [bst_s0 (decide_eq_false (fun q => q hx))] at ih
        rw [nI_1]; exact ih
