/-! THE CALLS: addBin, addDrowned, bring -/
theorem cnt_0 {f : Nat → Bool} {n : Nat} (h : ∀ j, j < n → f j = false) : cnt f n = 0 := by
  induction n with
  | zero => rfl
  | succ n ih => rw [cnt_s0 (h n (by omega))]; exact ih (fun j hj => h j (by omega))
theorem IV.noBin {N : Nat → Nat} {A : SA} {V : SV} (h : IV N A V) : fil (N 3) A (N 1) = 0 := by
  have n1 := h.n1
  refine cnt_0 (fun l hl => decide_eq_false (fun w => ?_))
  rcases (h.2.2.2 l hl).2.2.2.2.2.1 with ⟨_, b, hb, e⟩ | ⟨q, _⟩
  · have := (nI_eq (by omega) (by omega)).mp (e.symm.trans w.2)
    omega
  · exact q w.1
theorem IV.abin {N : Nat → Nat} {A : SA} {V : SV} {r : Nat} {x : Int32} (h : IV N A V) (hn : N 1 < 10) (hr1 : 1 ≤ r) (hr2 : r ≤ 20) : IV (nu N 1 (N 1 + 1)) (up (up (up A 1 (N 1) x) 2 (N 1) (nI r)) 3 (N 1) 0) (uv V 1 (nI (N 1 + 1))) := by
  obtain ⟨hV, n0, n1, n2, n3, n4, n5, n6, n7⟩ := id h.1
  have z := h.noBin
  have e : ∀ k j, 3 < k → up (up (up A 1 (N 1) x) 2 (N 1) (nI r)) 3 (N 1) 0 k j = A k j := fun k j hk => by rw [up_ne (by omega), up_ne (by omega), up_ne (by omega)]
  have hf : ∀ b, fil (N 3) (up (up (up A 1 (N 1) x) 2 (N 1) (nI r)) 3 (N 1) 0) b = fil (N 3) A b := fun b => cnt_congr (fun l _ => by rw [e 12 l (by omega), e 14 l (by omega)])
  refine ⟨⟨fun k hk => ?_, n0, n1, hn, n3, n4, n5, n6, n7⟩, fun b hb => ?_, fun o ho => ?_, fun l hl => ?_⟩
  · by_cases q : k = 1
    · subst q; rfl
    · rw [uv_at, if_neg q, nu_ne q]; exact hV k hk
  · have hb : b < N 1 + 1 := hb
    by_cases q : b = N 1
    · rw [q]
      refine ⟨r, hr1, hr2, by rw [up_ne (by omega), up_eq], ?_, ?_⟩
      · show fil (N 3) _ (N 1) ≤ r
        rw [hf, z]; omega
      · show _ = nI (fil (N 3) _ (N 1))
        rw [hf, z, up_eq]; rfl
    · obtain ⟨r', q1, q2, q3, q4, q5⟩ := h.2.1 b (by omega)
      refine ⟨r', q1, q2, by rw [up_ne (by omega), up_ne (by omega), up_ne (by omega)]; exact q3, ?_, ?_⟩
      · show fil (N 3) _ b ≤ r'
        rw [hf]; exact q4
      · show _ = nI (fil (N 3) _ b)
        rw [hf, up_ne (by omega), up_ne (by omega), up_ne (by omega)]; exact q5
  · rw [e 5 o (by omega), e 6 o (by omega)]; exact h.2.2.1 o ho
  · obtain ⟨p1, p2, p3, p4, p5, p6, p7, p8⟩ := LI.congr (h.2.2.2 l hl) (B := up (up (up A 1 (N 1) x) 2 (N 1) (nI r)) 3 (N 1) 0) (fun k h1 _ => e k l (by omega))
    refine ⟨p1, p2, p3, p4, p5, ?_, p7, p8⟩
    rcases p6 with ⟨q1, b, hb, q2⟩ | q
    · exact Or.inl ⟨q1, b, Nat.lt_succ_of_lt hb, q2⟩
    · exact Or.inr q
def adD (A : SA) (k : Nat) (a b c : Int32) : SA := up (up (up (up (up A 4 k a) 5 k b) 6 k c) 7 k 0) 8 k 0
theorem adD_ne {A : SA} {k : Nat} {a b c : Int32} {q j : Nat} (h : j ≠ k ∨ q < 4 ∨ 8 < q) : adD A k a b c q j = A q j := by
  unfold adD
  rw [up_ne (by omega), up_ne (by omega), up_ne (by omega), up_ne (by omega), up_ne (by omega)]
theorem adD_at {A : SA} {k : Nat} {a b c : Int32} : adD A k a b c 4 k = a ∧ adD A k a b c 5 k = b ∧ adD A k a b c 6 k = c ∧ adD A k a b c 7 k = 0 ∧ adD A k a b c 8 k = 0 := by
  unfold adD
  refine ⟨?_, ?_, ?_, ?_, ?_⟩
  · rw [up_ne (by omega), up_ne (by omega), up_ne (by omega), up_ne (by omega), up_eq]
  · rw [up_ne (by omega), up_ne (by omega), up_ne (by omega), up_eq]
  · rw [up_ne (by omega), up_ne (by omega), up_eq]
  · rw [up_ne (by omega), up_eq]
  · rw [up_eq]
theorem IV.adro {N : Nat → Nat} {A : SA} {V : SV} {n g : Nat} {x : Int32} (h : IV N A V) (hn : N 2 < 16) (hn5 : n ≤ 5) (hg1 : 1 ≤ g) (hg2 : g ≤ 60) : IV (nu N 2 (N 2 + 1)) (adD A (N 2) x (nI n) (nI g)) (uv V 2 (nI (N 2 + 1))) := by
  obtain ⟨hV, n0, n1, n2, n3, n4, n5, n6, n7⟩ := id h.1
  obtain ⟨_, c5, c6, _, _⟩ := @adD_at A (N 2) x (nI n) (nI g)
  refine ⟨⟨fun k hk => ?_, n0, n1, n2, hn, n4, n5, n6, n7⟩, ?_, fun o ho => ?_, fun l hl => ?_⟩
  · by_cases q : k = 2
    · subst q; rfl
    · rw [uv_at, if_neg q, nu_ne q]; exact hV k hk
  · have hb : BI N (adD A (N 2) x (nI n) (nI g)) := BI.keep h.2.1 (fun b _ => adD_ne (by omega)) (fun b _ => adD_ne (by omega)) (fun b j _ _ => by rw [adD_ne (by omega), adD_ne (by omega)])
    exact hb
  · have ho : o < N 2 + 1 := ho
    by_cases q : o = N 2
    · rw [q]
      exact ⟨⟨n, hn5, c5⟩, ⟨g, hg1, hg2, c6⟩⟩
    · rw [adD_ne (by omega), adD_ne (by omega)]
      exact h.2.2.1 o (by omega)
  · obtain ⟨p1, p2⟩ := LI.congr (h.2.2.2 l hl) (B := adD A (N 2) x (nI n) (nI g)) (fun k h1 _ => adD_ne (by omega))
    obtain ⟨o, ho, e⟩ := p1
    exact ⟨⟨o, Nat.lt_succ_of_lt ho, e⟩, p2⟩
theorem nI_50 (n : Nat) : (5 : Int32) * nI n = nI (5 * n) := by rw [← Nat.add_zero (5 * n), ← nI_5, show nI 0 = 0 from rfl, Int32.add_zero]

/-! THE CALLS: takeOut, letter, drowned, bin, count, binFor -/
theorem IV.back {N : Nat → Nat} {A : SA} {V : SV} {l b : Nat} (hI : IV N A V) (hl : l < N 3) (hs : A 12 l = 1) (hb : b < N 1) (ha : A 14 l = nI b) : IV N (lvA A l b 0) V := by
  obtain ⟨⟨o, ho, a9⟩, ⟨w, hw1, hw2, a10⟩, ⟨s, hs1, hs2, a11⟩, _, ⟨g, hg, a13, hg2⟩, _, _, ⟨y, hy, a16⟩⟩ := hI.2.2.2 l hl
  have e : ∀ k j, k ≠ 3 → ¬ ((k = 12 ∨ k = 14 ∨ k = 15) ∧ j = l) → lvA A l b 0 k j = A k j := fun k j h1 h2 => by
    unfold lvA
    rw [up_ne (by omega), up_ne (by omega), up_ne (by omega), up_ne (by omega)]
  have b12 : lvA A l b 0 12 l = 0 := up_eq
  have b14 : lvA A l b 0 14 l = -1 := by unfold lvA; rw [up_ne (by omega), up_ne (by omega), up_eq]
  have b15 : lvA A l b 0 15 l = 0 := by unfold lvA; rw [up_ne (by omega), up_eq]
  have nz : ¬ lvA A l b 0 12 l = 1 := by rw [b12]; decide
  refine IV.letter (l := l) hI (fun k j h1 h2 h3 => e k j (by omega) (by omega)) ?_ ?_
  · refine BI.leave hI.2.1 hl hs ha hb hI.n1 nz (fun b2 _ => e 2 b2 (by omega) (by omega)) (fun b2 _ => ?_) (fun j hj => ⟨e 12 j (by omega) (by omega), e 14 j (by omega) (by omega)⟩)
    unfold lvA
    rw [up_ne (by omega), up_ne (by omega), up_ne (by omega), up_at]
    by_cases q : b2 = b
    · rw [if_pos ⟨rfl, q⟩, if_pos q, q]
    · rw [if_neg (by omega), if_neg q]
  · unfold LI
    rw [e 9 l (by omega) (by omega), e 10 l (by omega) (by omega), e 11 l (by omega) (by omega), e 13 l (by omega) (by omega), e 16 l (by omega) (by omega)]
    exact ⟨⟨o, ho, a9⟩, ⟨w, hw1, hw2, a10⟩, ⟨s, hs1, hs2, a11⟩, ⟨0, by omega, b12⟩, ⟨g, hg, a13, fun _ => hg2 (Or.inr hs)⟩, Or.inr ⟨nz, b14, b15⟩, ⟨0, by omega, b15⟩, ⟨y, hy, a16⟩⟩
/-- what is told of a bin -/
def bnV (N : Nat → Nat) (A : SA) (b k : Nat) : Int32 := if k = 0 then A 1 b else if k = 1 then A 2 b else if k = 2 then A 3 b else if k = 3 then (if A 0 (N 4 % N 0) ≤ A 1 b then 0 else 1) else sumI (fun l => if A 12 l = 1 ∧ A 14 l = nI b then A 13 l else 0) (N 3)
theorem sp_binFact {N : Nat → Nat} {A : SA} {V : SV} {b k : Nat} {Q : Int32 → SA → SV → Prop} (hI : IV N A V) (hb : b < N 1) (hk : k < 5) (h4 : N 4 < 2 ^ 31) (h : Q (bnV N A b k) A V) : wpX3_binFact A V (nI b) (nI k) Q := by
  have n1 := hI.n1
  unfold wpX3_binFact wb_X3_binFact_0
  refine sp_has0 ?_
  rw [hI.v 1 (by omega), hasI_t hb (by omega)]
  have hin : vp_in (nI b) 10 := vp_in_nI (by omega) (by omega)
  refine ⟨fun _ => ?_, fun q => absurd q (by decide)⟩
  rw [nI_clamp (by omega)]
  rcases (show k = 0 ∨ k = 1 ∨ k = 2 ∨ k = 3 ∨ k = 4 by omega) with rfl | rfl | rfl | rfl | rfl
  · exact ⟨fun _ => ⟨hin, h⟩, fun q => absurd rfl q⟩
  · exact ⟨fun q => absurd q (by decide), fun _ => ⟨fun _ => ⟨hin, h⟩, fun q => absurd rfl q⟩⟩
  · exact ⟨fun q => absurd q (by decide), fun _ => ⟨fun q => absurd q (by decide), fun _ => ⟨fun _ => ⟨hin, h⟩, fun q => absurd rfl q⟩⟩⟩
  · refine ⟨fun q => absurd q (by decide), fun _ => ⟨fun q => absurd q (by decide), fun _ => ⟨fun q => absurd q (by decide), fun _ => ⟨fun _ => ?_, fun q => absurd rfl q⟩⟩⟩⟩
    refine sp_tideNow (hI.v 0 (by omega)) (hI.v 4 (by omega)) hI.1.2.1 hI.1.2.2.1 h4 (sp_isUnder (hI.v 1 (by omega)) n1 hb ?_)
    have h : Q (if A 0 (N 4 % N 0) ≤ A 1 b then 0 else 1) A V := h
    by_cases c : A 0 (N 4 % N 0) ≤ A 1 b
    · rw [if_pos c] at h ⊢
      exact ⟨fun _ => h, fun q => absurd rfl q⟩
    · rw [if_neg c] at h ⊢
      exact ⟨fun q => absurd q (by decide), fun _ => h⟩
  · exact ⟨fun q => absurd q (by decide), fun _ => ⟨fun q => absurd q (by decide), fun _ => ⟨fun q => absurd q (by decide), fun _ => ⟨fun q => absurd q (by decide), fun _ => ⟨fun _ => sp_growthIn (hI.v 3 (by omega)) hI.n3 h, fun q => absurd rfl q⟩⟩⟩⟩⟩
/-- what is counted -/
def ctV (N : Nat → Nat) (A : SA) (k : Nat) : Int32 := if k = 0 then nI (N 4) else if k = 1 then nI (N 1) else if k = 2 then nI (N 2) else if k = 3 then nI (N 3) else if k = 10 then nI (N 0) else if k = 11 then nI (N 5) else if k = 12 then nI (N 6) else nI (cnt (fun l => decide (A 12 l = nI (k - 4))) (N 3))
theorem sp_total {N : Nat → Nat} {A : SA} {V : SV} {k : Nat} {Q : Int32 → SA → SV → Prop} (hI : IV N A V) (hk : k < 13) (h : Q (ctV N A k) A V) : wpX3_total A V (nI k) Q := by
  have f := fun (k : Nat) (h1 : k < 7) => hI.v k h1
  unfold wpX3_total wb_X3_total_0
  rw [f 0 (by omega), f 1 (by omega), f 2 (by omega), f 3 (by omega), f 4 (by omega), f 5 (by omega), f 6 (by omega)]
  have s : ∀ j, Q (nI (cnt (fun l => decide (A 12 l = nI j)) (N 3))) A V → wpX2_inState A V (nI (j + 4) - 4) (fun r A V => Q r A V) := fun j h => by
    rw [show nI (j + 4) - (4 : Int32) = nI j from (pk_sub (b := 4) (by omega)).trans (by rw [Nat.add_sub_cancel])]
    exact sp_inState (f 3 (by omega)) hI.n3 h
  rcases (show k = 0 ∨ k = 1 ∨ k = 2 ∨ k = 3 ∨ k = 4 ∨ k = 5 ∨ k = 6 ∨ k = 7 ∨ k = 8 ∨ k = 9 ∨ k = 10 ∨ k = 11 ∨ k = 12 by omega) with rfl | rfl | rfl | rfl | rfl | rfl | rfl | rfl | rfl | rfl | rfl | rfl | rfl
  · exact ⟨fun _ => h, fun q => absurd rfl q⟩
  · exact ⟨fun q => absurd q (by decide), fun _ => ⟨fun _ => h, fun q => absurd rfl q⟩⟩
  · exact ⟨fun q => absurd q (by decide), fun _ => ⟨fun q => absurd q (by decide), fun _ => ⟨fun _ => h, fun q => absurd rfl q⟩⟩⟩
  · exact ⟨fun q => absurd q (by decide), fun _ => ⟨fun q => absurd q (by decide), fun _ => ⟨fun q => absurd q (by decide), fun _ => ⟨fun _ => h, fun q => absurd rfl q⟩⟩⟩⟩
  · exact ⟨fun q => absurd q (by decide), fun _ => ⟨fun q => absurd q (by decide), fun _ => ⟨fun q => absurd q (by decide), fun _ => ⟨fun q => absurd q (by decide), fun _ => ⟨fun _ => s 0 h, fun q => absurd rfl q⟩⟩⟩⟩⟩
  · exact ⟨fun q => absurd q (by decide), fun _ => ⟨fun q => absurd q (by decide), fun _ => ⟨fun q => absurd q (by decide), fun _ => ⟨fun q => absurd q (by decide), fun _ => ⟨fun q => absurd q (by decide), fun _ => ⟨fun _ => s 1 h, fun q => absurd rfl q⟩⟩⟩⟩⟩⟩
  · exact ⟨fun q => absurd q (by decide), fun _ => ⟨fun q => absurd q (by decide), fun _ => ⟨fun q => absurd q (by decide), fun _ => ⟨fun q => absurd q (by decide), fun _ => ⟨fun q => absurd q (by decide), fun _ => ⟨fun q => absurd q (by decide), fun _ => ⟨fun _ => s 2 h, fun q => absurd rfl q⟩⟩⟩⟩⟩⟩⟩
  · exact ⟨fun q => absurd q (by decide), fun _ => ⟨fun q => absurd q (by decide), fun _ => ⟨fun q => absurd q (by decide), fun _ => ⟨fun q => absurd q (by decide), fun _ => ⟨fun q => absurd q (by decide), fun _ => ⟨fun q => absurd q (by decide), fun _ => ⟨fun q => absurd q (by decide), fun _ => ⟨fun _ => s 3 h, fun q => absurd rfl q⟩⟩⟩⟩⟩⟩⟩⟩
  · exact ⟨fun q => absurd q (by decide), fun _ => ⟨fun q => absurd q (by decide), fun _ => ⟨fun q => absurd q (by decide), fun _ => ⟨fun q => absurd q (by decide), fun _ => ⟨fun q => absurd q (by decide), fun _ => ⟨fun q => absurd q (by decide), fun _ => ⟨fun q => absurd q (by decide), fun _ => ⟨fun q => absurd q (by decide), fun _ => ⟨fun _ => s 4 h, fun q => absurd rfl q⟩⟩⟩⟩⟩⟩⟩⟩⟩
  · exact ⟨fun q => absurd q (by decide), fun _ => ⟨fun q => absurd q (by decide), fun _ => ⟨fun q => absurd q (by decide), fun _ => ⟨fun q => absurd q (by decide), fun _ => ⟨fun q => absurd q (by decide), fun _ => ⟨fun q => absurd q (by decide), fun _ => ⟨fun q => absurd q (by decide), fun _ => ⟨fun q => absurd q (by decide), fun _ => ⟨fun q => absurd q (by decide), fun _ => ⟨fun _ => s 5 h, fun q => absurd rfl q⟩⟩⟩⟩⟩⟩⟩⟩⟩⟩
  · exact ⟨fun q => absurd q (by decide), fun _ => ⟨fun q => absurd q (by decide), fun _ => ⟨fun q => absurd q (by decide), fun _ => ⟨fun q => absurd q (by decide), fun _ => ⟨fun q => absurd q (by decide), fun _ => ⟨fun q => absurd q (by decide), fun _ => ⟨fun q => absurd q (by decide), fun _ => ⟨fun q => absurd q (by decide), fun _ => ⟨fun q => absurd q (by decide), fun _ => ⟨fun q => absurd q (by decide), fun _ => ⟨fun _ => h, fun q => absurd rfl q⟩⟩⟩⟩⟩⟩⟩⟩⟩⟩⟩
  · exact ⟨fun q => absurd q (by decide), fun _ => ⟨fun q => absurd q (by decide), fun _ => ⟨fun q => absurd q (by decide), fun _ => ⟨fun q => absurd q (by decide), fun _ => ⟨fun q => absurd q (by decide), fun _ => ⟨fun q => absurd q (by decide), fun _ => ⟨fun q => absurd q (by decide), fun _ => ⟨fun q => absurd q (by decide), fun _ => ⟨fun q => absurd q (by decide), fun _ => ⟨fun q => absurd q (by decide), fun _ => ⟨fun q => absurd q (by decide), fun _ => ⟨fun _ => h, fun q => absurd rfl q⟩⟩⟩⟩⟩⟩⟩⟩⟩⟩⟩⟩
  · exact ⟨fun q => absurd q (by decide), fun _ => ⟨fun q => absurd q (by decide), fun _ => ⟨fun q => absurd q (by decide), fun _ => ⟨fun q => absurd q (by decide), fun _ => ⟨fun q => absurd q (by decide), fun _ => ⟨fun q => absurd q (by decide), fun _ => ⟨fun q => absurd q (by decide), fun _ => ⟨fun q => absurd q (by decide), fun _ => ⟨fun q => absurd q (by decide), fun _ => ⟨fun q => absurd q (by decide), fun _ => ⟨fun q => absurd q (by decide), fun _ => ⟨fun q => absurd q (by decide), fun _ => ⟨fun _ => h, fun q => absurd rfl q⟩⟩⟩⟩⟩⟩⟩⟩⟩⟩⟩⟩⟩

