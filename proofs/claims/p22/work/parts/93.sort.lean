/-! THE SORTERS, both sides -/
def soS (N : Nat → Nat) (A : SA) : SA :=
  match bst (okH A) (btH A) (N 3) with
  | none => A
  | some l =>
    match bst (okN A) (btN A (A 4 (A 9 l).toNatClampNeg)) (N 1) with
    | none => A
    | some b => up (up (up A 12 l 1) 14 l (nI b)) 3 b (A 3 b + 1)
def soF (N : Nat → Nat) (A : SA) : Nat → SA
  | 0 => A
  | i + 1 => soS N (soF N A i)
theorem soF_fix {N : Nat → Nat} {A : SA} {i : Nat} (h : soS N (soF N A i) = soF N A i) : ∀ d, soF N A (i + d) = soF N A i := by
  intro d
  induction d with
  | zero => rfl
  | succ d ih => rw [show i + (d + 1) = (i + d) + 1 from rfl, soF, ih, h]
theorem soS_IV {N : Nat → Nat} {A : SA} {V : SV} (h : IV N A V) : IV N (soS N A) V := by
  unfold soS
  cases hb : bst (okH A) (btH A) (N 3) with
  | none => exact h
  | some l =>
    dsimp only
    cases hc : bst (okN A) (btN A (A 4 (A 9 l).toNatClampNeg)) (N 1) with
    | none => exact h
    | some b =>
      dsimp only
      have hl := (bst_lt hb).1
      have hb1 := (bst_lt hc).1
      have hI0 := h
      obtain ⟨⟨hV, n0, n1, n2, n3, n4, n5, n6, n7⟩, hB, hD, hL⟩ := h
      obtain ⟨⟨o, ho, a9⟩, ⟨w, hw1, hw2, a10⟩, ⟨s, hs1, hs2, a11⟩, ⟨z, hz, a12⟩, ⟨g, hg, a13, hg2⟩, hbin, ⟨hh, hh2, a15⟩, ⟨y, hy, a16⟩⟩ := hL l hl
      have s0 : A 12 l = 0 := of_decide_eq_true (bst_lt hb).2
      have s1 : ¬ A 12 l = 1 := by rw [s0]; decide
      have room : A 3 b < A 2 b := by
        obtain ⟨r, r1, r2, a2, hf, a3⟩ := hB b hb1
        have q : ¬ A 2 b ≤ A 3 b := of_decide_eq_true (bst_lt hc).2
        rw [a2, a3, nI_leI (by omega) (by omega)] at q
        rw [a2, a3, nI_ltI (by omega) (by omega)]
        omega
      have e : ∀ k j, k ≠ 3 → ¬ ((k = 12 ∨ k = 14) ∧ j = l) → up (up (up A 12 l 1) 14 l (nI b)) 3 b (A 3 b + 1) k j = A k j := fun k j h1 h2 => by rw [up_ne (by omega), up_ne (by omega), up_ne (by omega)]
      have e12 : up (up (up A 12 l 1) 14 l (nI b)) 3 b (A 3 b + 1) 12 l = 1 := by rw [up_ne (by omega), up_ne (by omega), up_eq]
      have e14 : up (up (up A 12 l 1) 14 l (nI b)) 3 b (A 3 b + 1) 14 l = nI b := by rw [up_ne (by omega), up_eq]
      refine IV.letter (l := l) hI0 (fun k j h1 h2 h3 => e k j (by omega) (by omega)) (BI.enter hB hl s1 hb1 n2 e12 e14 room n4 (fun b2 _ => e 2 b2 (by omega) (by omega)) (fun b2 _ => ?_) (fun j hj => ⟨e 12 j (by omega) (by omega), e 14 j (by omega) (by omega)⟩)) ?_
      · rw [up_at, up_ne (by omega), up_ne (by omega)]
        by_cases q : b2 = b
        · rw [if_pos ⟨rfl, q⟩, if_pos q, q]
        · rw [if_neg (by omega), if_neg q]
      · unfold LI
        rw [e 9 l (by omega) (by omega), e 10 l (by omega) (by omega), e 11 l (by omega) (by omega), e 13 l (by omega) (by omega), e 15 l (by omega) (by omega), e 16 l (by omega) (by omega), e12, e14]
        exact ⟨⟨o, ho, a9⟩, ⟨w, hw1, hw2, a10⟩, ⟨s, hs1, hs2, a11⟩, ⟨1, by omega, rfl⟩, ⟨g, hg, a13, fun _ => hg2 (Or.inl s0)⟩, Or.inl ⟨rfl, b, hb1, rfl⟩, ⟨hh, hh2, a15⟩, ⟨y, hy, a16⟩⟩
theorem soF_IV {N : Nat → Nat} {A : SA} {V : SV} (h : IV N A V) : ∀ i, IV N (soF N A i) V := by
  intro i
  induction i with
  | zero => exact h
  | succ i ih => exact soS_IV ih
theorem sp_sort {N : Nat → Nat} {A : SA} {V : SV} {Q : SA → SV → Prop} (hI : IV N A V) (h : Q (soF N A (N 6)) V) : wpX3_sort A V Q := by
  obtain ⟨hV, n0, n1, n2, n3, n4, n5, n6, n7⟩ := id hI.1
  refine ⟨N 6 - 0 + 1, ?_⟩
  refine up_loop (P := fun f i => wl_X3_sort_2 Q f (soF N A i) V (nI i)) (fun f => ?_) (fun f i hi ih => ?_) 0 (Nat.zero_le _)
  · exact ⟨fun _ => h, fun hc => absurd (by rw [hV 6 (by omega)]; exact Int32.le_refl _) hc⟩
  · have hIi := soF_IV hI i
    rw [soF] at ih
    have stop : soS N (soF N A i) = soF N A i → Q (soF N A i) V := by
      intro q
      have e := soF_fix q (N 6 - i)
      rw [show i + (N 6 - i) = N 6 by omega] at e
      rw [← e]; exact h
    refine ⟨fun hc => ?_, fun _ => sp_heaviest (hV 3 (by omega)) n4 (sp_has2 ?_)⟩
    · rw [hV 6 (by omega), nI_leI (by omega) (by omega)] at hc; omega
    · rw [hV 3 (by omega)]
      cases hb : bst (okH (soF N A i)) (btH (soF N A i)) (N 3) with
      | none =>
        rw [show oI none = -1 from rfl, hasI_m1]
        refine ⟨fun w => absurd rfl w, fun _ => stop ?_⟩
        unfold soS; rw [hb]
      | some l =>
        have hl := (bst_lt hb).1
        have hin : vp_in (nI l) 150 := vp_in_nI (by omega) (by omega)
        rw [show oI (some l) = nI l from rfl, hasI_t hl (by omega), nI_clamp (by omega)]
        refine ⟨fun _ => ⟨hin, ?_⟩, fun w => absurd w (by decide)⟩
        obtain ⟨⟨o, ho, a9⟩, _⟩ := hIi.2.2.2 l hl
        rw [a9]
        refine sp_heightOf (hV 2 (by omega)) n3 ho (sp_nearest (hV 1 (by omega)) n2 (sp_has0 ?_))
        rw [hV 1 (by omega)]
        cases hc : bst (okN (soF N A i)) (btN (soF N A i) (soF N A i 4 o)) (N 1) with
        | none =>
          rw [show oI none = -1 from rfl, hasI_m1]
          refine ⟨fun w => absurd rfl w, fun _ => stop ?_⟩
          unfold soS; rw [hb]; dsimp only; rw [a9, nI_clamp (by omega), hc]
        | some b =>
          have hb1 := (bst_lt hc).1
          have hinb : vp_in (nI b) 10 := vp_in_nI (by omega) (by omega)
          rw [show oI (some b) = nI b from rfl, hasI_t hb1 (by omega), nI_clamp (by omega)]
          refine ⟨fun _ => ⟨hin, fun A1 e1 => ⟨hin, fun A2 e2 => ⟨hinb, hinb, fun A3 e3 => ?_⟩⟩⟩, fun w => absurd w (by decide)⟩
          unfold soS at ih
          rw [hb] at ih
          dsimp only at ih
          rw [a9, nI_clamp (by omega), hc] at ih
          rw [e3, e2, e1, nI_1, up_ne (k := 14) (k' := 3) (by omega), up_ne (k := 12) (k' := 3) (by omega)]
          exact ih
