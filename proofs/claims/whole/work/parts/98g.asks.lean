/-! THE CALLS: takeOut, letter, drowned, bin, count, binFor -/
theorem IV.back {N : Nat → Nat} {A : SA} {V : SV} {l b : Nat} (hI : IV N A V) (hl : l < N 3) (hs : A 12 l = 1) (hb : b < N 1) (ha : A 14 l = nI b) : IV N (lvA A l b 0) V := by
  obtain ⟨⟨o, ho, a9⟩, ⟨w, hw1, hw2, a10⟩, ⟨s, hs1, hs2, a11⟩, _, ⟨g, hg, a13, hg2⟩, _, _, ⟨y, hy, a16⟩⟩ := hI.2.2.2 l hl
  have e : ∀ k j, k ≠ 3 → ¬ ((k = 12 ∨ k = 14 ∨ k = 15) ∧ j = l) → lvA A l b 0 k j = A k j := fun k j h1 h2 => by
    unfold lvA
    rw [up_ne (by omega), up_ne (by omega), up_ne (by omega), up_ne (by omega)]
  have b12 : lvA A l b 0 12 l = 0 := up_eq
  have b14 : lvA A l b 0 14 l = -1 := by unfold lvA; rw [up_ne (by omega), up_ne (by omega), up_eq]
  have b15 : lvA A l b 0 15 l = 0 := by unfold lvA; rw [up_ne (by omega), up_eq]
  have nz : ¬ lvA A l b 0 12 l = 1 := by rw [b12]; decide
  refine IV.letter (l := l) hI (fun k j h1 h2 h3 => e k j (by omega) (by omega)) ?_ ?_
  · refine BI.leave hI.2.1 hl hs ha hb hI.n1 nz (fun b2 _ => e 2 b2 (by omega) (by omega)) (fun b2 _ => ?_) (fun j hj => ⟨e 12 j (by omega) (by omega), e 14 j (by omega) (by omega)⟩)
    unfold lvA
    rw [up_ne (by omega), up_ne (by omega), up_ne (by omega), up_at]
    by_cases q : b2 = b
    · rw [if_pos ⟨rfl, q⟩, if_pos q, q]
    · rw [if_neg (by omega), if_neg q]
  · unfold LI
    rw [e 9 l (by omega) (by omega), e 10 l (by omega) (by omega), e 11 l (by omega) (by omega), e 13 l (by omega) (by omega), e 16 l (by omega) (by omega)]
    exact ⟨⟨o, ho, a9⟩, ⟨w, hw1, hw2, a10⟩, ⟨s, hs1, hs2, a11⟩, ⟨0, by omega, b12⟩, ⟨g, hg, a13, fun _ => hg2 (Or.inr hs)⟩, Or.inr ⟨nz, b14, b15⟩, ⟨0, by omega, b15⟩, ⟨y, hy, a16⟩⟩
/-- what is told of a bin -/
def bnV (N : Nat → Nat) (A : SA) (b k : Nat) : Int32 := if k = 0 then A 1 b else if k = 1 then A 2 b else if k = 2 then A 3 b else if k = 3 then (if A 0 (N 4 % N 0) ≤ A 1 b then 0 else 1) else sumI (fun l => if A 12 l = 1 ∧ A 14 l = nI b then A 13 l else 0) (N 3)
theorem sp_binFact {N : Nat → Nat} {A : SA} {V : SV} {b k : Nat} {Q : Int32 → SA → SV → Prop} (hI : IV N A V) (hb : b < N 1) (hk : k < 5) (h4 : N 4 < 2 ^ 31) (h : Q (bnV N A b k) A V) : wpX3_binFact A V (nI b) (nI k) Q := by
  have n1 := hI.n1
  unfold wpX3_binFact wb_X3_binFact_0
  refine sp_has0 ?_
  rw [hI.v 1 (by omega), hasI_t hb (by omega)]
  have hin : vp_in (nI b) 10 := vp_in_nI (by omega) (by omega)
  refine ⟨fun _ => ?_, fun q => absurd q (by decide)⟩
  rw [nI_clamp (by omega)]
  rcases (show k = 0 ∨ k = 1 ∨ k = 2 ∨ k = 3 ∨ k = 4 by omega) with rfl | rfl | rfl | rfl | rfl
  · exact ⟨fun _ => ⟨hin, h⟩, fun q => absurd rfl q⟩
  · exact ⟨fun q => absurd q (by decide), fun _ => ⟨fun _ => ⟨hin, h⟩, fun q => absurd rfl q⟩⟩
  · exact ⟨fun q => absurd q (by decide), fun _ => ⟨fun q => absurd q (by decide), fun _ => ⟨fun _ => ⟨hin, h⟩, fun q => absurd rfl q⟩⟩⟩
  · refine ⟨fun q => absurd q (by decide), fun _ => ⟨fun q => absurd q (by decide), fun _ => ⟨fun q => absurd q (by decide), fun _ => ⟨fun _ => ?_, fun q => absurd rfl q⟩⟩⟩⟩
    refine sp_tideNow (hI.v 0 (by omega)) (hI.v 4 (by omega)) hI.1.2.1 hI.1.2.2.1 h4 (sp_isUnder (hI.v 1 (by omega)) n1 hb ?_)
    have h : Q (if A 0 (N 4 % N 0) ≤ A 1 b then 0 else 1) A V := h
    by_cases c : A 0 (N 4 % N 0) ≤ A 1 b
    · rw [if_pos c] at h ⊢
      exact ⟨fun _ => h, fun q => absurd rfl q⟩
    · rw [if_neg c] at h ⊢
      exact ⟨fun q => absurd q (by decide), fun _ => h⟩
  · exact ⟨fun q => absurd q (by decide), fun _ => ⟨fun q => absurd q (by decide), fun _ => ⟨fun q => absurd q (by decide), fun _ => ⟨fun q => absurd q (by decide), fun _ => ⟨fun _ => sp_growthIn (hI.v 3 (by omega)) hI.n3 h, fun q => absurd rfl q⟩⟩⟩⟩⟩
theorem sp_binTold {N : Nat → Nat} {A : SA} {V : SV} {AM : SA} {VM : SV} {b k : Nat} {Q : Int32 → SA → SV → Prop} (hI : IV N A V) (hM : MR N A AM VM) (hb : b < N 1) (hk : k < 5) (h4 : N 4 < 2 ^ 31) (h : Q (bnV N A b k) AM VM) : wpX6_binTold AM VM (nI b) (nI k) Q := by
  have n1 := hI.n1
  have e := hM.bn hb
  have hm : N 4 % N 0 < N 0 := Nat.mod_lt _ hI.1.2.1
  unfold wpX6_binTold wb_X6_binTold_0
  rcases (show k = 0 ∨ k = 1 ∨ k = 2 ∨ k = 3 ∨ k = 4 by omega) with rfl | rfl | rfl | rfl | rfl
  · refine ⟨fun _ => ?_, fun q => absurd rfl q⟩
    rw [nI_2, nI_clamp (by omega)]
    refine ⟨vp_in_nI (by omega) (by omega), ?_⟩
    rw [Nat.add_zero, e.1]; exact h
  · refine ⟨fun q => absurd q (by decide), fun _ => ⟨fun _ => ?_, fun q => absurd rfl q⟩⟩
    rw [nI_2, nI_clamp (by omega)]
    refine ⟨vp_in_nI (by omega) (by omega), ?_⟩
    rw [e.2]; exact h
  · refine ⟨fun q => absurd q (by decide), fun _ => ⟨fun q => absurd q (by decide), fun _ => ⟨fun _ => ?_, fun q => absurd rfl q⟩⟩⟩
    refine sp_sumOf1 hM.2.2.2.2.1 hI.n3 ?_
    obtain ⟨r, _, _, _, _, a3⟩ := hI.2.1 b hb
    have ec : cnt (inB AM (nI b)) (N 3) = fil (N 3) A b := cnt_congr (fun l hl => by
      show decide (AM 3 (9 * l + 3) = 1 ∧ AM 3 (9 * l + 5) = nI b) = decide (A 12 l = 1 ∧ A 14 l = nI b)
      rw [hM.row (k := 3) hl (by omega), hM.row (k := 5) hl (by omega)])
    rw [ec, ← a3]; exact h
  · refine ⟨fun q => absurd q (by decide), fun _ => ⟨fun q => absurd q (by decide), fun _ => ⟨fun q => absurd q (by decide), fun _ => ⟨fun _ => ?_, fun q => absurd rfl q⟩⟩⟩⟩
    rw [hM.1]
    refine sp_tideOf hM.2.1 hI.1.2.1 hI.1.2.2.1 h4 (sp_isUnder6 (by omega) ?_)
    rw [hM.td hm, e.1]
    have h : Q (if A 0 (N 4 % N 0) ≤ A 1 b then 0 else 1) AM VM := h
    by_cases c : A 0 (N 4 % N 0) ≤ A 1 b
    · rw [if_pos c] at h ⊢
      exact ⟨fun _ => h, fun q => absurd rfl q⟩
    · rw [if_neg c] at h ⊢
      exact ⟨fun q => absurd q (by decide), fun _ => h⟩
  · refine ⟨fun q => absurd q (by decide), fun _ => ⟨fun q => absurd q (by decide), fun _ => ⟨fun q => absurd q (by decide), fun _ => ⟨fun q => absurd q (by decide), fun _ => ?_⟩⟩⟩⟩
    refine sp_sumOf0 hM.2.2.2.2.1 hI.n3 ?_
    have es : sumI (fun l => if AM 3 (9 * l + 3) = 1 ∧ AM 3 (9 * l + 5) = nI b then AM 3 (9 * l + 4) else 0) (N 3) = bnV N A b 4 := sumI_congr (fun l hl => by
      rw [hM.row (k := 3) hl (by omega), hM.row (k := 5) hl (by omega), hM.row (k := 4) hl (by omega)])
    rw [es]; exact h
/-- what is counted -/
def ctV (N : Nat → Nat) (A : SA) (k : Nat) : Int32 := if k = 0 then nI (N 4) else if k = 1 then nI (N 1) else if k = 2 then nI (N 2) else if k = 3 then nI (N 3) else if k = 10 then nI (N 0) else if k = 11 then nI (N 5) else if k = 12 then nI (N 6) else nI (cnt (fun l => decide (A 12 l = nI (k - 4))) (N 3))
theorem sp_total {N : Nat → Nat} {A : SA} {V : SV} {k : Nat} {Q : Int32 → SA → SV → Prop} (hI : IV N A V) (hk : k < 13) (h : Q (ctV N A k) A V) : wpX3_total A V (nI k) Q := by
  have f := fun (k : Nat) (h1 : k < 7) => hI.v k h1
  unfold wpX3_total wb_X3_total_0
  rw [f 0 (by omega), f 1 (by omega), f 2 (by omega), f 3 (by omega), f 4 (by omega), f 5 (by omega), f 6 (by omega)]
  have s : ∀ j, Q (nI (cnt (fun l => decide (A 12 l = nI j)) (N 3))) A V → wpX2_inState A V (nI (j + 4) - 4) (fun r A V => Q r A V) := fun j h => by
    rw [show nI (j + 4) - (4 : Int32) = nI j from (pk_sub (b := 4) (by omega)).trans (by rw [Nat.add_sub_cancel])]
    exact sp_inState (f 3 (by omega)) hI.n3 h
  rcases (show k = 0 ∨ k = 1 ∨ k = 2 ∨ k = 3 ∨ k = 4 ∨ k = 5 ∨ k = 6 ∨ k = 7 ∨ k = 8 ∨ k = 9 ∨ k = 10 ∨ k = 11 ∨ k = 12 by omega) with rfl | rfl | rfl | rfl | rfl | rfl | rfl | rfl | rfl | rfl | rfl | rfl | rfl
  · exact ⟨fun _ => h, fun q => absurd rfl q⟩
  · exact ⟨fun q => absurd q (by decide), fun _ => ⟨fun _ => h, fun q => absurd rfl q⟩⟩
  · exact ⟨fun q => absurd q (by decide), fun _ => ⟨fun q => absurd q (by decide), fun _ => ⟨fun _ => h, fun q => absurd rfl q⟩⟩⟩
  · exact ⟨fun q => absurd q (by decide), fun _ => ⟨fun q => absurd q (by decide), fun _ => ⟨fun q => absurd q (by decide), fun _ => ⟨fun _ => h, fun q => absurd rfl q⟩⟩⟩⟩
  · exact ⟨fun q => absurd q (by decide), fun _ => ⟨fun q => absurd q (by decide), fun _ => ⟨fun q => absurd q (by decide), fun _ => ⟨fun q => absurd q (by decide), fun _ => ⟨fun _ => s 0 h, fun q => absurd rfl q⟩⟩⟩⟩⟩
  · exact ⟨fun q => absurd q (by decide), fun _ => ⟨fun q => absurd q (by decide), fun _ => ⟨fun q => absurd q (by decide), fun _ => ⟨fun q => absurd q (by decide), fun _ => ⟨fun q => absurd q (by decide), fun _ => ⟨fun _ => s 1 h, fun q => absurd rfl q⟩⟩⟩⟩⟩⟩
  · exact ⟨fun q => absurd q (by decide), fun _ => ⟨fun q => absurd q (by decide), fun _ => ⟨fun q => absurd q (by decide), fun _ => ⟨fun q => absurd q (by decide), fun _ => ⟨fun q => absurd q (by decide), fun _ => ⟨fun q => absurd q (by decide), fun _ => ⟨fun _ => s 2 h, fun q => absurd rfl q⟩⟩⟩⟩⟩⟩⟩
  · exact ⟨fun q => absurd q (by decide), fun _ => ⟨fun q => absurd q (by decide), fun _ => ⟨fun q => absurd q (by decide), fun _ => ⟨fun q => absurd q (by decide), fun _ => ⟨fun q => absurd q (by decide), fun _ => ⟨fun q => absurd q (by decide), fun _ => ⟨fun q => absurd q (by decide), fun _ => ⟨fun _ => s 3 h, fun q => absurd rfl q⟩⟩⟩⟩⟩⟩⟩⟩
  · exact ⟨fun q => absurd q (by decide), fun _ => ⟨fun q => absurd q (by decide), fun _ => ⟨fun q => absurd q (by decide), fun _ => ⟨fun q => absurd q (by decide), fun _ => ⟨fun q => absurd q (by decide), fun _ => ⟨fun q => absurd q (by decide), fun _ => ⟨fun q => absurd q (by decide), fun _ => ⟨fun q => absurd q (by decide), fun _ => ⟨fun _ => s 4 h, fun q => absurd rfl q⟩⟩⟩⟩⟩⟩⟩⟩⟩
  · exact ⟨fun q => absurd q (by decide), fun _ => ⟨fun q => absurd q (by decide), fun _ => ⟨fun q => absurd q (by decide), fun _ => ⟨fun q => absurd q (by decide), fun _ => ⟨fun q => absurd q (by decide), fun _ => ⟨fun q => absurd q (by decide), fun _ => ⟨fun q => absurd q (by decide), fun _ => ⟨fun q => absurd q (by decide), fun _ => ⟨fun q => absurd q (by decide), fun _ => ⟨fun _ => s 5 h, fun q => absurd rfl q⟩⟩⟩⟩⟩⟩⟩⟩⟩⟩
  · exact ⟨fun q => absurd q (by decide), fun _ => ⟨fun q => absurd q (by decide), fun _ => ⟨fun q => absurd q (by decide), fun _ => ⟨fun q => absurd q (by decide), fun _ => ⟨fun q => absurd q (by decide), fun _ => ⟨fun q => absurd q (by decide), fun _ => ⟨fun q => absurd q (by decide), fun _ => ⟨fun q => absurd q (by decide), fun _ => ⟨fun q => absurd q (by decide), fun _ => ⟨fun q => absurd q (by decide), fun _ => ⟨fun _ => h, fun q => absurd rfl q⟩⟩⟩⟩⟩⟩⟩⟩⟩⟩⟩
  · exact ⟨fun q => absurd q (by decide), fun _ => ⟨fun q => absurd q (by decide), fun _ => ⟨fun q => absurd q (by decide), fun _ => ⟨fun q => absurd q (by decide), fun _ => ⟨fun q => absurd q (by decide), fun _ => ⟨fun q => absurd q (by decide), fun _ => ⟨fun q => absurd q (by decide), fun _ => ⟨fun q => absurd q (by decide), fun _ => ⟨fun q => absurd q (by decide), fun _ => ⟨fun q => absurd q (by decide), fun _ => ⟨fun q => absurd q (by decide), fun _ => ⟨fun _ => h, fun q => absurd rfl q⟩⟩⟩⟩⟩⟩⟩⟩⟩⟩⟩⟩
  · exact ⟨fun q => absurd q (by decide), fun _ => ⟨fun q => absurd q (by decide), fun _ => ⟨fun q => absurd q (by decide), fun _ => ⟨fun q => absurd q (by decide), fun _ => ⟨fun q => absurd q (by decide), fun _ => ⟨fun q => absurd q (by decide), fun _ => ⟨fun q => absurd q (by decide), fun _ => ⟨fun q => absurd q (by decide), fun _ => ⟨fun q => absurd q (by decide), fun _ => ⟨fun q => absurd q (by decide), fun _ => ⟨fun q => absurd q (by decide), fun _ => ⟨fun q => absurd q (by decide), fun _ => ⟨fun _ => h, fun q => absurd rfl q⟩⟩⟩⟩⟩⟩⟩⟩⟩⟩⟩⟩⟩
theorem sp_counted {N : Nat → Nat} {A : SA} {V : SV} {AM : SA} {VM : SV} {k : Nat} {Q : Int32 → SA → SV → Prop} (hI : IV N A V) (hM : MR N A AM VM) (hk : k < 13) (h : Q (ctV N A k) AM VM) : wpX6_counted AM VM (nI k) Q := by
  obtain ⟨m1, m2, m3, m4, m5, m6, m7, -, -, -, -⟩ := id hM
  unfold wpX6_counted wb_X6_counted_0
  rw [m1, m2, m3, m4, m5, m6, m7]
  have s : ∀ j, Q (nI (cnt (fun l => decide (A 12 l = nI j)) (N 3))) AM VM → wpX6_many AM VM (nI (j + 4) - 4) (fun r A V => Q r A V) := fun j h => by
    rw [show nI (j + 4) - (4 : Int32) = nI j from (pk_sub (b := 4) (by omega)).trans (by rw [Nat.add_sub_cancel])]
    refine sp_many m5 hI.n3 ?_
    rw [hM.cn]; exact h
  rcases (show k = 0 ∨ k = 1 ∨ k = 2 ∨ k = 3 ∨ k = 4 ∨ k = 5 ∨ k = 6 ∨ k = 7 ∨ k = 8 ∨ k = 9 ∨ k = 10 ∨ k = 11 ∨ k = 12 by omega) with rfl | rfl | rfl | rfl | rfl | rfl | rfl | rfl | rfl | rfl | rfl | rfl | rfl
  · exact ⟨fun _ => h, fun q => absurd rfl q⟩
  · exact ⟨fun q => absurd q (by decide), fun _ => ⟨fun _ => h, fun q => absurd rfl q⟩⟩
  · exact ⟨fun q => absurd q (by decide), fun _ => ⟨fun q => absurd q (by decide), fun _ => ⟨fun _ => h, fun q => absurd rfl q⟩⟩⟩
  · exact ⟨fun q => absurd q (by decide), fun _ => ⟨fun q => absurd q (by decide), fun _ => ⟨fun q => absurd q (by decide), fun _ => ⟨fun _ => h, fun q => absurd rfl q⟩⟩⟩⟩
  · exact ⟨fun q => absurd q (by decide), fun _ => ⟨fun q => absurd q (by decide), fun _ => ⟨fun q => absurd q (by decide), fun _ => ⟨fun q => absurd q (by decide), fun _ => ⟨fun _ => s 0 h, fun q => absurd rfl q⟩⟩⟩⟩⟩
  · exact ⟨fun q => absurd q (by decide), fun _ => ⟨fun q => absurd q (by decide), fun _ => ⟨fun q => absurd q (by decide), fun _ => ⟨fun q => absurd q (by decide), fun _ => ⟨fun q => absurd q (by decide), fun _ => ⟨fun _ => s 1 h, fun q => absurd rfl q⟩⟩⟩⟩⟩⟩
  · exact ⟨fun q => absurd q (by decide), fun _ => ⟨fun q => absurd q (by decide), fun _ => ⟨fun q => absurd q (by decide), fun _ => ⟨fun q => absurd q (by decide), fun _ => ⟨fun q => absurd q (by decide), fun _ => ⟨fun q => absurd q (by decide), fun _ => ⟨fun _ => s 2 h, fun q => absurd rfl q⟩⟩⟩⟩⟩⟩⟩
  · exact ⟨fun q => absurd q (by decide), fun _ => ⟨fun q => absurd q (by decide), fun _ => ⟨fun q => absurd q (by decide), fun _ => ⟨fun q => absurd q (by decide), fun _ => ⟨fun q => absurd q (by decide), fun _ => ⟨fun q => absurd q (by decide), fun _ => ⟨fun q => absurd q (by decide), fun _ => ⟨fun _ => s 3 h, fun q => absurd rfl q⟩⟩⟩⟩⟩⟩⟩⟩
  · exact ⟨fun q => absurd q (by decide), fun _ => ⟨fun q => absurd q (by decide), fun _ => ⟨fun q => absurd q (by decide), fun _ => ⟨fun q => absurd q (by decide), fun _ => ⟨fun q => absurd q (by decide), fun _ => ⟨fun q => absurd q (by decide), fun _ => ⟨fun q => absurd q (by decide), fun _ => ⟨fun q => absurd q (by decide), fun _ => ⟨fun _ => s 4 h, fun q => absurd rfl q⟩⟩⟩⟩⟩⟩⟩⟩⟩
  · exact ⟨fun q => absurd q (by decide), fun _ => ⟨fun q => absurd q (by decide), fun _ => ⟨fun q => absurd q (by decide), fun _ => ⟨fun q => absurd q (by decide), fun _ => ⟨fun q => absurd q (by decide), fun _ => ⟨fun q => absurd q (by decide), fun _ => ⟨fun q => absurd q (by decide), fun _ => ⟨fun q => absurd q (by decide), fun _ => ⟨fun q => absurd q (by decide), fun _ => ⟨fun _ => s 5 h, fun q => absurd rfl q⟩⟩⟩⟩⟩⟩⟩⟩⟩⟩
  · exact ⟨fun q => absurd q (by decide), fun _ => ⟨fun q => absurd q (by decide), fun _ => ⟨fun q => absurd q (by decide), fun _ => ⟨fun q => absurd q (by decide), fun _ => ⟨fun q => absurd q (by decide), fun _ => ⟨fun q => absurd q (by decide), fun _ => ⟨fun q => absurd q (by decide), fun _ => ⟨fun q => absurd q (by decide), fun _ => ⟨fun q => absurd q (by decide), fun _ => ⟨fun q => absurd q (by decide), fun _ => ⟨fun _ => h, fun q => absurd rfl q⟩⟩⟩⟩⟩⟩⟩⟩⟩⟩⟩
  · exact ⟨fun q => absurd q (by decide), fun _ => ⟨fun q => absurd q (by decide), fun _ => ⟨fun q => absurd q (by decide), fun _ => ⟨fun q => absurd q (by decide), fun _ => ⟨fun q => absurd q (by decide), fun _ => ⟨fun q => absurd q (by decide), fun _ => ⟨fun q => absurd q (by decide), fun _ => ⟨fun q => absurd q (by decide), fun _ => ⟨fun q => absurd q (by decide), fun _ => ⟨fun q => absurd q (by decide), fun _ => ⟨fun q => absurd q (by decide), fun _ => ⟨fun _ => h, fun q => absurd rfl q⟩⟩⟩⟩⟩⟩⟩⟩⟩⟩⟩⟩
  · exact ⟨fun q => absurd q (by decide), fun _ => ⟨fun q => absurd q (by decide), fun _ => ⟨fun q => absurd q (by decide), fun _ => ⟨fun q => absurd q (by decide), fun _ => ⟨fun q => absurd q (by decide), fun _ => ⟨fun q => absurd q (by decide), fun _ => ⟨fun q => absurd q (by decide), fun _ => ⟨fun q => absurd q (by decide), fun _ => ⟨fun q => absurd q (by decide), fun _ => ⟨fun q => absurd q (by decide), fun _ => ⟨fun q => absurd q (by decide), fun _ => ⟨fun q => absurd q (by decide), fun _ => ⟨fun _ => h, fun q => absurd rfl q⟩⟩⟩⟩⟩⟩⟩⟩⟩⟩⟩⟩⟩
section CALLS
variable {t : Nat} {N : Nat → Nat} {A : SA} {V : SV} {A2 : SA} {V2 : SV} {AM : SA} {VM : SV} {o : Nat → Int64} {a1 a2 a3 : Int32}
theorem st_takeOut (hI : IV N A V) (hM : MR N A AM VM) (h4 : N 4 ≤ 200 * t) (h6 : N 4 < 2 ^ 31) : LC_takeOut (INV t) A V A2 V2 o AM VM a1 a2 a3 := by
  have n3 := hI.n3
  have n1 := hI.n1
  have hm : N 4 % N 0 < N 0 := Nat.mod_lt _ hI.1.2.1
  unfold LC_takeOut wpL_takeOut wpX5_takeOut wb_X5_takeOut_0
  refine sp_has2 ?_
  rw [hI.v 3 (by omega)]
  rcases has_or a1 (n := N 3) (by omega) with h | ⟨l, hl, rfl⟩
  · rw [h]
    exact ⟨fun q => absurd rfl q, fun _ => Or.inl ⟨rfl, m_go hM (fun VM1 hM1 z1 => sp_isLetter hM1.2.2.2.2.1 n3 (by rw [h]; exact ⟨fun q => absurd rfl q, fun _ => sp_fail (e_bad (by decide) hI hM1 h4)⟩))⟩⟩
  · have hl1 := hasI_t (n := N 3) hl (by omega)
    rw [hl1]
    refine ⟨fun _ => ⟨vp_in_nI (by omega) (by omega), sp_has0 ?_⟩, fun q => absurd q (by decide)⟩
    rw [nI_clamp (by omega), hI.v 1 (by omega)]
    rcases (hI.2.2.2 l hl).2.2.2.2.2.1 with ⟨s1, b, hb, a14⟩ | ⟨s1, a14, _⟩
    · rw [a14, hasI_t hb (by omega)]
      refine ⟨fun _ => sp_tideNow (hI.v 0 (by omega)) (hI.v 4 (by omega)) hI.1.2.1 hI.1.2.2.1 h6 (sp_isUnder (hI.v 1 (by omega)) n1 hb ⟨fun c => ?_, fun c => Or.inr ⟨rfl, ?_⟩⟩), fun q => absurd q (by decide)⟩
      · refine sp_leaveBin hI.1 hl hb a14 ?_
        refine m_go hM (fun VM1 hM1 z1 => sp_isLetter hM1.2.2.2.2.1 n3 (by
          rw [hl1]
          refine ⟨fun _ => sp_isS (by omega) ?_, fun q => absurd q (by decide)⟩
          rw [hM1.st hl, if_pos s1]
          refine ⟨fun q => absurd q (by decide), fun _ => sp_get (k := 5) (by omega) (by omega) ?_⟩
          rw [hM1.row (k := 5) hl (by omega), hM1.1, a14]
          refine sp_tideOf hM1.2.1 hI.1.2.1 hI.1.2.2.1 h6 (sp_isUnder6 (by omega) ?_)
          rw [hM1.td hm, (hM1.bn hb).1, c]
          refine ⟨fun _ => sp_leave (by omega) ?_, fun q => absurd rfl q⟩
          exact e_ok z1 ((hM1.row (k := 5) hl (by omega)).trans a14) (hI.back hl s1 hb a14) hM1.lv h4))
      · exact m_go hM (fun VM1 hM1 z1 => sp_isLetter hM1.2.2.2.2.1 n3 (by
          rw [hl1]
          refine ⟨fun _ => sp_isS (by omega) ?_, fun q => absurd q (by decide)⟩
          rw [hM1.st hl, if_pos s1]
          refine ⟨fun q => absurd q (by decide), fun _ => sp_get (k := 5) (by omega) (by omega) ?_⟩
          rw [hM1.row (k := 5) hl (by omega), hM1.1, a14]
          refine sp_tideOf hM1.2.1 hI.1.2.1 hI.1.2.2.1 h6 (sp_isUnder6 (by omega) ?_)
          rw [hM1.td hm, (hM1.bn hb).1]
          exact ⟨fun q => absurd q c, fun _ => sp_fail (e_bad (by decide) hI hM1 h4)⟩))
    · rw [a14, hasI_m1]
      exact ⟨fun q => absurd rfl q, fun _ => Or.inr ⟨rfl, m_go hM (fun VM1 hM1 z1 => sp_isLetter hM1.2.2.2.2.1 n3 (by
          rw [hl1]
          refine ⟨fun _ => sp_isS (by omega) ?_, fun q => absurd q (by decide)⟩
          rw [hM1.st hl, if_neg s1]
          exact ⟨fun _ => sp_fail (e_bad (by decide) hI hM1 h4), fun q => absurd rfl q⟩))⟩⟩
theorem st_letter (hI : IV N A V) (hM : MR N A AM VM) (h4 : N 4 ≤ 200 * t) : LC_letter (INV t) A V A2 V2 o AM VM a1 a2 a3 := by
  have n3 := hI.n3
  unfold LC_letter wpL_letter wpX5_letter wb_X5_letter_0
  refine sp_has2 ?_
  rw [hI.v 3 (by omega)]
  rcases has_or a1 (n := N 3) (by omega) with h | ⟨l, hl, rfl⟩
  · rw [h]
    exact ⟨fun _ => ⟨rfl, m_go hM (fun VM1 hM1 z1 => sp_isLetter hM1.2.2.2.2.1 n3 (by rw [h]; exact ⟨fun _ => sp_fail (e_bad (by decide) hI hM1 h4), fun q => absurd rfl q⟩))⟩, fun q => absurd rfl q⟩
  · have hl1 := hasI_t (n := N 3) hl (by omega)
    rw [hl1]
    refine ⟨fun q => absurd q (by decide), fun _ => sp_within ⟨fun g => ?_, fun g => ⟨rfl, ?_⟩⟩⟩
    · obtain ⟨k, _, hk, ek⟩ := in_nat (lo := 0) (hi := 8) g (by omega) (by omega)
      rw [ek] at g ⊢
      refine sp_fact2 (hI.v 3 (by omega)) n3 hl (by omega) ?_
      exact m_go hM (fun VM1 hM1 z1 => sp_isLetter hM1.2.2.2.2.1 n3 (by
        rw [hl1]
        refine ⟨fun q => absurd q (by decide), fun _ => sp_isIn ⟨fun q => absurd q g, fun _ => sp_get (by omega) (by omega) ?_⟩⟩
        exact e_ok z1 (hM1.row hl (by omega)) hI hM1 h4))
    · exact m_go hM (fun VM1 hM1 z1 => sp_isLetter hM1.2.2.2.2.1 n3 (by
        rw [hl1]
        exact ⟨fun q => absurd q (by decide), fun _ => sp_isIn ⟨fun _ => sp_fail (e_bad (by decide) hI hM1 h4), fun q => absurd g q⟩⟩))
theorem st_drowned (hI : IV N A V) (hM : MR N A AM VM) (h4 : N 4 ≤ 200 * t) : LC_drowned (INV t) A V A2 V2 o AM VM a1 a2 a3 := by
  have n2 := hI.n2
  unfold LC_drowned wpL_drowned wpX5_drowned wb_X5_drowned_0
  refine sp_has1 ?_
  rw [hI.v 2 (by omega)]
  rcases has_or a1 (n := N 2) (by omega) with h | ⟨l, hl, rfl⟩
  · rw [h]
    exact ⟨fun _ => ⟨rfl, m_go hM (fun VM1 hM1 z1 => sp_isOne hM1.2.2.2.1 n2 (by rw [h]; exact ⟨fun _ => sp_fail (e_bad (by decide) hI hM1 h4), fun q => absurd rfl q⟩))⟩, fun q => absurd rfl q⟩
  · have hl1 := hasI_t (n := N 2) hl (by omega)
    rw [hl1]
    refine ⟨fun q => absurd q (by decide), fun _ => sp_within ⟨fun g => ?_, fun g => ⟨rfl, ?_⟩⟩⟩
    · obtain ⟨k, _, hk, ek⟩ := in_nat (lo := 0) (hi := 4) g (by omega) (by omega)
      rw [ek] at g ⊢
      refine sp_fact1 (hI.v 2 (by omega)) n2 hl (by omega) ?_
      exact m_go hM (fun VM1 hM1 z1 => sp_isOne hM1.2.2.2.1 n2 (by
        rw [hl1]
        refine ⟨fun q => absurd q (by decide), fun _ => sp_isIn ⟨fun q => absurd q g, fun _ => sp_one (by omega) (by omega) ?_⟩⟩
        exact e_ok z1 (hM1.dro hl (by omega)) hI hM1 h4))
    · exact m_go hM (fun VM1 hM1 z1 => sp_isOne hM1.2.2.2.1 n2 (by
        rw [hl1]
        exact ⟨fun q => absurd q (by decide), fun _ => sp_isIn ⟨fun _ => sp_fail (e_bad (by decide) hI hM1 h4), fun q => absurd g q⟩⟩))
theorem st_bin (hI : IV N A V) (hM : MR N A AM VM) (h4 : N 4 ≤ 200 * t) (h6 : N 4 < 2 ^ 31) : LC_bin (INV t) A V A2 V2 o AM VM a1 a2 a3 := by
  have n1 := hI.n1
  unfold LC_bin wpL_bin wpX5_bin wb_X5_bin_0
  refine sp_has0 ?_
  rw [hI.v 1 (by omega)]
  rcases has_or a1 (n := N 1) (by omega) with h | ⟨l, hl, rfl⟩
  · rw [h]
    refine ⟨fun _ => ⟨rfl, m_go hM (fun VM1 hM1 z1 => sp_isIn ?_)⟩, fun q => absurd rfl q⟩
    rw [hM1.2.2.1, inI_has a1 (by omega), h]
    exact ⟨fun _ => sp_fail (e_bad (by decide) hI hM1 h4), fun q => absurd rfl q⟩
  · have hl1 := hasI_t (n := N 1) hl (by omega)
    rw [hl1]
    refine ⟨fun q => absurd q (by decide), fun _ => sp_within ⟨fun g => ?_, fun g => ⟨rfl, ?_⟩⟩⟩
    · obtain ⟨k, _, hk, ek⟩ := in_nat (lo := 0) (hi := 4) g (by omega) (by omega)
      rw [ek] at g ⊢
      refine sp_binFact hI hl (by omega) h6 ?_
      refine m_go hM (fun VM1 hM1 z1 => sp_isIn ?_)
      rw [hM1.2.2.1, inI_has (nI l) (by omega), hl1]
      refine ⟨fun q => absurd q (by decide), fun _ => sp_isIn ⟨fun q => absurd q g, fun _ => sp_binTold hI hM1 hl (by omega) h6 ?_⟩⟩
      exact e_ok z1 rfl hI hM1 h4
    · refine m_go hM (fun VM1 hM1 z1 => sp_isIn ?_)
      rw [hM1.2.2.1, inI_has (nI l) (by omega), hl1]
      exact ⟨fun q => absurd q (by decide), fun _ => sp_isIn ⟨fun _ => sp_fail (e_bad (by decide) hI hM1 h4), fun q => absurd g q⟩⟩
theorem st_count (hI : IV N A V) (hM : MR N A AM VM) (h4 : N 4 ≤ 200 * t) : LC_count (INV t) A V A2 V2 o AM VM a1 a2 a3 := by
  unfold LC_count wpL_count wpX5_count wb_X5_count_0
  refine sp_within ⟨fun g => ?_, fun g => ⟨rfl, m_go hM (fun VM1 hM1 z1 => sp_isIn ⟨fun _ => sp_fail (e_bad (by decide) hI hM1 h4), fun q => absurd g q⟩)⟩⟩
  obtain ⟨k, _, hk, ek⟩ := in_nat (lo := 0) (hi := 12) g (by omega) (by omega)
  rw [ek] at g ⊢
  refine sp_total hI (by omega) ?_
  exact m_go hM (fun VM1 hM1 z1 => sp_isIn ⟨fun q => absurd q g, fun _ => sp_counted hI hM1 (by omega) (e_ok z1 rfl hI hM1 h4)⟩)
theorem st_binFor (hI : IV N A V) (hM : MR N A AM VM) (h4 : N 4 ≤ 200 * t) : LC_binFor (INV t) A V A2 V2 o AM VM a1 a2 a3 := by
  have n2 := hI.n2
  unfold LC_binFor wpL_binFor wpX5_binFor wb_X5_binFor_0
  refine sp_has1 ?_
  rw [hI.v 2 (by omega)]
  rcases has_or a1 (n := N 2) (by omega) with h | ⟨l, hl, rfl⟩
  · rw [h]
    exact ⟨fun q => absurd rfl q, fun _ => ⟨rfl, m_go hM (fun VM1 hM1 z1 => sp_isOne hM1.2.2.2.1 n2 (by rw [h]; exact ⟨fun _ => sp_fail (e_bad (by decide) hI hM1 h4), fun q => absurd rfl q⟩))⟩⟩
  · have hl1 := hasI_t (n := N 2) hl (by omega)
    rw [hl1]
    refine ⟨fun _ => sp_heightOf (hI.v 2 (by omega)) n2 hl (sp_nearest (hI.v 1 (by omega)) hI.n1 ?_), fun q => absurd q (by decide)⟩
    exact m_go hM (fun VM1 hM1 z1 => sp_isOne hM1.2.2.2.1 n2 (by
      rw [hl1]
      refine ⟨fun q => absurd q (by decide), fun _ => sp_binOf hM1.2.2.2.2.1 hI.n3 hM1.2.2.1 hI.n1 (by omega) ?_⟩
      rw [bin_eq hI hM1 hl]
      exact e_ok z1 rfl hI hM1 h4))
end CALLS
