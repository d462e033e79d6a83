/-! THE SCRAPERS -/
def okS (t : Int32) (A : SA) (l : Nat) : Bool := decide (¬ A 13 l = 0 ∧ A 12 l = 1 ∧ A 19 l = 0 ∧ t ≤ A 1 (A 14 l).toNatClampNeg)
def btS (A : SA) (j k : Nat) : Bool := decide (¬ A 13 j ≤ A 13 k)
def oG (A : SA) : Option Nat → Int32
  | none => 0
  | some k => A 13 k
theorem sp_most {N : Nat → Nat} {A : SA} {V : SV} {t : Int32} {Q : Int32 → SA → SV → Prop} (hI : IV N A V) (h : Q (oI (bst (okS t A) (btS A) (N 3))) A V) : wpX3_mostOvergrown A V t Q := by
  have hn3 : N 3 ≤ 150 := hI.1.2.2.2.2.2.1
  have hn1 : N 1 ≤ 10 := hI.1.2.2.2.1
  refine ⟨N 3 - 0 + 1, ?_⟩
  refine up_loop (P := fun f j => wl_X3_mostOvergrown_7 Q f A V t (oI (bst (okS t A) (btS A) j)) (oG A (bst (okS t A) (btS A) j)) (nI j)) (fun f => ?_) (fun f j hj ih => ?_) 0 (Nat.zero_le _)
  · refine ⟨fun _ => h, fun hc => absurd ?_ hc⟩
    rw [hI.1.1 3 (by omega)]; exact Int32.le_refl _
  · have hin : vp_in (nI j) 150 := vp_in_nI (by omega) (by omega)
    obtain ⟨_, _, _, _, ⟨g, hg, a13, _⟩, hbin, _, _⟩ := hI.2.2.2 j hj
    have skip : okS t A j = false → wl_X3_mostOvergrown_7 Q f A V t (oI (bst (okS t A) (btS A) j)) (oG A (bst (okS t A) (btS A) j)) (nI (j + 1)) := by
      intro q
      rw [bst_s0 q] at ih
      exact ih
    refine ⟨fun hc => ?_, fun _ => ⟨hin, ?_⟩⟩
    · rw [hI.1.1 3 (by omega), nI_leI (by omega) (by omega)] at hc; omega
    · rw [nI_clamp (by omega), nI_1]
      refine ⟨fun q => ?_, fun q => ?_⟩
      · cases hb : bst (okS t A) (btS A) j with
        | none =>
          rw [hb] at q skip
          refine skip (decide_eq_false (fun w => w.1 ?_))
          have q2 : A 13 j ≤ 0 := q
          rw [a13, show (0 : Int32) = nI 0 from rfl, nI_leI (by omega) (by omega)] at q2
          rw [a13, show g = 0 by omega]; rfl
        | some k =>
          rw [hb] at q skip
          cases ho : okS t A j with
          | false => exact skip ho
          | true =>
            rw [bst_s3 ho hb (decide_eq_false (fun w => w q))] at ih
            exact ih
      · have take : okS t A j = true → wl_X3_mostOvergrown_7 Q f A V t (nI j) (A 13 j) (nI (j + 1)) := by
          intro ho
          cases hb : bst (okS t A) (btS A) j with
          | none => rw [bst_s1 ho hb] at ih; exact ih
          | some k =>
            rw [hb] at q
            rw [bst_s2 ho hb (decide_eq_true q)] at ih; exact ih
        have g0 : ¬ A 13 j = 0 := by
          intro w
          cases hb : bst (okS t A) (btS A) j with
          | none => rw [hb] at q; exact q (by rw [w]; exact Int32.le_refl _)
          | some k =>
            rw [hb] at q
            obtain ⟨_, _, _, _, ⟨g2, hg2, b13, _⟩, _, _, _⟩ := hI.2.2.2 k (by have := (bst_lt hb).1; omega)
            refine q ?_
            show A 13 j ≤ A 13 k
            rw [w, b13, show (0 : Int32) = nI 0 from rfl, nI_leI (by omega) (by omega)]
            omega
        unfold wpX3_canBeScraped wb_X3_canBeScraped_0
        rw [nI_clamp (by omega)]
        refine ⟨hin, fun q1 => ⟨fun _ => skip (decide_eq_false (fun w => q1 w.2.1)), fun w => absurd rfl w⟩, fun q1 => ⟨hin, fun q2 => ⟨fun _ => skip (decide_eq_false (fun w => q2 w.2.2.1)), fun w => absurd rfl w⟩, fun q2 => ⟨hin, ?_⟩⟩⟩
        obtain ⟨b, hb, a14⟩ : ∃ b, b < N 1 ∧ A 14 j = nI b := by
          rcases hbin with ⟨_, w⟩ | ⟨w, _⟩
          · exact w
          · exact absurd q1 w
        rw [a14]
        refine sp_isUnder (hI.1.1 1 (by omega)) hn1 hb ?_
        by_cases q3 : t ≤ A 1 b
        · rw [if_pos q3]
          refine ⟨fun w => absurd rfl w, fun _ => ⟨fun w => absurd w (by decide), fun _ => ⟨hin, ?_⟩⟩⟩
          exact take (decide_eq_true ⟨g0, q1, q2, by rw [a14, nI_clamp (by omega)]; exact q3⟩)
        · rw [if_neg q3]
          refine ⟨fun _ => ⟨fun _ => skip (decide_eq_false (fun w => q3 ?_)), fun w => absurd rfl w⟩, fun w => absurd w (by decide)⟩
          have w4 := w.2.2.2
          rw [a14, nI_clamp (by omega)] at w4
          exact w4
def clF (A : SA) : Nat → SA
  | 0 => A
  | m + 1 => up (clF A m) 19 m 0
theorem clF_ne {A : SA} {k : Nat} (h : k ≠ 19) : ∀ m j, clF A m k j = A k j := by
  intro m
  induction m with
  | zero => exact fun _ => rfl
  | succ m ih => exact fun j => by rw [clF, up_ne (Or.inl h)]; exact ih j
theorem clF_19 {A : SA} : ∀ m j, j < m → clF A m 19 j = 0 := by
  intro m
  induction m with
  | zero => exact fun j h => absurd h (by omega)
  | succ m ih =>
    intro j h
    rw [clF]
    by_cases q : j = m
    · rw [q, up_eq]
    · rw [up_ne (by omega)]; exact ih j (by omega)
def hv2 (x : Int32) : Int32 := if 0 < x - 2 then x - 2 else 0
theorem hv2_n {y : Nat} (hy : y < 2 ^ 30) : hv2 (nI y) = nI (y - 2) := by
  unfold hv2
  by_cases e : 2 < y
  · rw [show (2 : Int32) = nI 2 from rfl, pk_sub (by omega), if_pos]
    rw [show (0 : Int32) = nI 0 from rfl, nI_ltI (by omega) (by omega)]; omega
  · rw [show y - 2 = 0 by omega, if_neg]
    · rfl
    · have h3 : y = 0 ∨ y = 1 ∨ y = 2 := by omega
      rcases h3 with e | e | e <;> rw [e] <;> decide
def scS (t : Int32) (n : Nat) (A : SA) : SA :=
  match bst (okS t A) (btS A) n with
  | none => A
  | some l => up (up A 13 l (hv2 (A 13 l))) 19 l 1
def scF (t : Int32) (n : Nat) (A : SA) : Nat → SA
  | 0 => A
  | i + 1 => scS t n (scF t n A i)
theorem scS_IV {N : Nat → Nat} {A : SA} {V : SV} {t : Int32} (h : IV N A V) : IV N (scS t (N 3) A) V := by
  unfold scS
  cases hb : bst (okS t A) (btS A) (N 3) with
  | none => exact h
  | some l =>
    dsimp only
    have hl := (bst_lt hb).1
    have hI0 := h
    obtain ⟨⟨o, ho, a9⟩, ⟨w, hw1, hw2, a10⟩, ⟨s, hs1, hs2, a11⟩, ⟨z, hz, a12⟩, ⟨g, hg, a13, hg2⟩, hbin, ⟨hh, hh2, a15⟩, ⟨y, hy, a16⟩⟩ := h.2.2.2 l hl
    have e : ∀ k j, k < 18 → ¬ (k = 13 ∧ j = l) → up (up A 13 l (hv2 (A 13 l))) 19 l 1 k j = A k j := fun k j h1 h2 => by rw [up_ne (by omega), up_ne (by omega)]
    refine IV.letter (l := l) hI0 (fun k j h1 h2 h3 => e k j (by omega) (by omega)) (BI.keep h.2.1 (fun b _ => e 2 b (by omega) (by omega)) (fun b _ => e 3 b (by omega) (by omega)) (fun b j _ _ => by rw [e 12 j (by omega) (by omega), e 14 j (by omega) (by omega)])) ?_
    unfold LI
    rw [e 9 l (by omega) (by omega), e 10 l (by omega) (by omega), e 11 l (by omega) (by omega), e 12 l (by omega) (by omega), e 14 l (by omega) (by omega), e 15 l (by omega) (by omega), e 16 l (by omega) (by omega)]
    refine ⟨⟨o, ho, a9⟩, ⟨w, hw1, hw2, a10⟩, ⟨s, hs1, hs2, a11⟩, ⟨z, hz, a12⟩, ⟨g - 2, by omega, ?_, fun q => by have := hg2 q; omega⟩, hbin, ⟨hh, hh2, a15⟩, ⟨y, hy, a16⟩⟩
    rw [up_ne (by omega), up_eq, a13, hv2_n (by omega)]
theorem scF_IV {N : Nat → Nat} {A : SA} {V : SV} {t : Int32} (h : IV N A V) : ∀ i, IV N (scF t (N 3) A i) V := by
  intro i
  induction i with
  | zero => exact h
  | succ i ih => exact scS_IV ih
theorem scF_none {t : Int32} {n : Nat} {A : SA} {i : Nat} (h : bst (okS t (scF t n A i)) (btS (scF t n A i)) n = none) : ∀ d, scF t n A (i + d) = scF t n A i := by
  intro d
  induction d with
  | zero => rfl
  | succ d ih =>
    rw [show i + (d + 1) = (i + d) + 1 from rfl, scF, ih]
    unfold scS
    rw [h]
theorem sp_scrape {N : Nat → Nat} {A : SA} {V : SV} {t : Int32} {Q : SA → SV → Prop} (hI : IV N A V) (h : Q (scF t (N 3) (clF A (N 3)) (N 5)) V) : wpX3_scrape A V t Q := by
  have hn3 : N 3 ≤ 150 := hI.1.2.2.2.2.2.1
  have hn5 : N 5 ≤ 9 := hI.1.2.2.2.2.2.2.2.1
  have hIc : IV N (clF A (N 3)) V := hI.frame (fun k j hk => clF_ne (by omega) _ _)
  refine ⟨N 3 - 0 + 1, ?_⟩
  refine up_loop (P := fun f j => wl_X3_scrape_2 Q f (clF A j) V t (nI j)) (fun f => ?_) (fun f j hj ih => ?_) 0 (Nat.zero_le _)
  · refine ⟨fun _ => ⟨N 5 - 0 + 1, ?_⟩, fun hc => absurd (by rw [hI.1.1 3 (by omega)]; exact Int32.le_refl _) hc⟩
    refine up_loop (P := fun f i => wl_X3_scrape_28 Q f (scF t (N 3) (clF A (N 3)) i) V t (nI i)) (fun f => ?_) (fun f i hi ih => ?_) 0 (Nat.zero_le _)
    · exact ⟨fun _ => h, fun hc => absurd (by rw [hI.1.1 5 (by omega)]; exact Int32.le_refl _) hc⟩
    · have hIi := scF_IV (t := t) hIc i
      refine ⟨fun hc => ?_, fun _ => sp_most hIi (sp_has2 ?_)⟩
      · rw [hI.1.1 5 (by omega), nI_leI (by omega) (by omega)] at hc; omega
      · rw [hI.1.1 3 (by omega)]
        rw [scF] at ih
        unfold scS at ih
        cases hb : bst (okS t (scF t (N 3) (clF A (N 3)) i)) (btS (scF t (N 3) (clF A (N 3)) i)) (N 3) with
        | none =>
          rw [show oI none = -1 from rfl, hasI_m1]
          refine ⟨fun w => absurd rfl w, fun _ => ?_⟩
          have e := scF_none hb (N 5 - i)
          rw [show i + (N 5 - i) = N 5 by omega] at e
          rw [← e]; exact h
        | some l =>
          have hl := (bst_lt hb).1
          rw [hb] at ih
          dsimp only at ih
          have hin : vp_in (nI l) 150 := vp_in_nI (by omega) (by omega)
          rw [show oI (some l) = nI l from rfl, hasI_t hl (by omega), nI_clamp (by omega)]
          refine ⟨fun _ => ⟨hin, hin, fun A1 e1 => ⟨hin, fun A2 e2 => ?_⟩⟩, fun w => absurd w (by decide)⟩
          rw [e2, e1, nI_1]
          exact ih
  · refine ⟨fun hc => ?_, fun _ => ⟨vp_in_nI (by omega) (by omega), fun A1 e1 => ?_⟩⟩
    · rw [hI.1.1 3 (by omega), nI_leI (by omega) (by omega)] at hc; omega
    · rw [nI_clamp (by omega)] at e1
      rw [e1, nI_1]
      exact ih

