/-! ONE ANSWER -/
theorem uv_same {V : SV} {k : Nat} {x : Int32} (h : V k = x) : uv V k x = V := by
  funext j
  rw [uv_at]
  split
  · rename_i e; rw [e, h]
  · rfl
theorem IV.frame {N : Nat → Nat} {A B : SA} {V : SV} (h : IV N A V) (e : ∀ k j, k = 2 ∨ k = 3 ∨ k = 5 ∨ k = 6 ∨ (9 ≤ k ∧ k ≤ 16) → B k j = A k j) : IV N B V := by
  refine ⟨h.1, BI.keep h.2.1 (fun b _ => e 2 b (by omega)) (fun b _ => e 3 b (by omega)) (fun b j _ _ => by rw [e 12 j (by omega), e 14 j (by omega)]), fun o ho => ?_, fun l hl => (h.2.2.2 l hl).congr (fun k h1 h2 => e k l (by omega))⟩
  rw [e 5 o (by omega), e 6 o (by omega)]
  exact h.2.2.1 o ho
theorem IV.add {N : Nat → Nat} {A : SA} {V : SV} {o w s z y : Nat} {f : Int32} (h : IV N A V) (hn : N 3 < 150) (ho : o < N 2) (hw1 : 1 ≤ w) (hw2 : w ≤ 9) (hs1 : 1 ≤ s) (hs2 : s ≤ 60) (hz : z = 0 ∨ z = 4) (hy : y ≤ 60) : IV (nx N) (adA A (N 3) (nI o) (nI w) (nI s) (nI z) (nI y) f) (uv V 3 (nI (N 3 + 1))) := by
  obtain ⟨⟨hV, n0, n1, n2, n3, n4, n5, n6, n7⟩, hB, hD, hL⟩ := h
  obtain ⟨c1, c2, c3, c4, c5, c6, c7, c8, c9⟩ := @adA_at A (N 3) (nI o) (nI w) (nI s) (nI z) (nI y) f
  have nz : ¬ nI z = 1 := by
    rw [show (1 : Int32) = nI 1 from rfl, nI_eq (by omega) (by omega)]; omega
  refine ⟨⟨fun k hk => ?_, n0, n1, n2, n3, ?_, n5, n6, n7⟩, fun b hb => ?_, fun o2 ho2 => ?_, fun l hl => ?_⟩
  · rw [uv_at]
    by_cases q : k = 3
    · rw [if_pos q, q, nx_3]
    · rw [if_neg q, nx_ne q]; exact hV k hk
  · rw [nx_3]; omega
  · obtain ⟨r, r1, r2, a2, hf, a3⟩ := hB b hb
    have ef : fil (nx N 3) (adA A (N 3) (nI o) (nI w) (nI s) (nI z) (nI y) f) b = fil (N 3) A b := by
      unfold fil
      rw [nx_3, cnt_s0 (decide_eq_false (fun q => by rw [c4] at q; exact nz q.1))]
      refine cnt_congr (fun j hj => ?_)
      rw [adA_ne (by omega), adA_ne (by omega)]
    refine ⟨r, r1, r2, by rw [adA_ne (by omega)]; exact a2, by rw [ef]; exact hf, by rw [ef, adA_ne (by omega)]; exact a3⟩
  · rw [adA_ne (by omega), adA_ne (by omega)]
    exact hD o2 ho2
  · rw [nx_3] at hl
    by_cases q : l = N 3
    · rw [q]
      unfold LI
      rw [c1, c2, c3, c4, c5, c6, c7, c8]
      exact ⟨⟨o, ho, rfl⟩, ⟨w, hw1, hw2, rfl⟩, ⟨s, hs1, hs2, rfl⟩, ⟨z, by omega, rfl⟩, ⟨0, by omega, rfl, fun _ => by omega⟩, Or.inr ⟨nz, rfl, rfl⟩, ⟨0, by omega, rfl⟩, ⟨y, hy, rfl⟩⟩
    · have h0 : LI N (adA A (N 3) (nI o) (nI w) (nI s) (nI z) (nI y) f) l := (hL l (by omega)).congr (fun k h1 h2 => adA_ne (by omega))
      exact h0
/-- one letter that has gone down: the count of its one, and the answer -/
def anF (A : SA) (N : Nat → Nat) (l : Nat) : SA × (Nat → Nat) :=
  let o := (A 9 l).toNatClampNeg
  let B := up A 7 o (A 7 o + 1)
  if A 5 o = 0 then (B, N)
  else if ¬ ((A 7 o + 1) - (A 7 o + 1) / A 5 o * A 5 o) = 0 then (B, N)
  else if N 3 = 150 then (B, N)
  else (up (adA B (N 3) (A 9 l) (A 10 l) (A 11 l) 4 (A 6 o) (nI l)) 8 o (A 8 o + 1), nx N)
theorem IV.ans {N : Nat → Nat} {A : SA} {V : SV} {l : Nat} (h : IV N A V) (hl : l < N 3) : IV (anF A N l).2 (anF A N l).1 (uv V 3 (nI ((anF A N l).2 3))) := by
  obtain ⟨⟨o, ho, a9⟩, ⟨w, hw1, hw2, a10⟩, ⟨s, hs1, hs2, a11⟩, _, _, _, _, _⟩ := h.2.2.2 l hl
  have hn3 : N 3 ≤ 150 := h.1.2.2.2.2.2.1
  obtain ⟨_, ⟨y, hy1, hy2, a6⟩⟩ := h.2.2.1 o ho
  have hB : IV N (up A 7 o (A 7 o + 1)) V := h.frame (fun k j hk => up_ne (by omega))
  have hn2 : N 2 ≤ 16 := h.1.2.2.2.2.1
  unfold anF
  rw [a9, nI_clamp (by omega)]
  dsimp only
  split
  · dsimp only; rw [uv_same (h.1.1 3 (by omega))]; exact hB
  · split
    · dsimp only; rw [uv_same (h.1.1 3 (by omega))]; exact hB
    · split
      · dsimp only; rw [uv_same (h.1.1 3 (by omega))]; exact hB
      · rename_i hk
        dsimp only
        rw [nx_3, a10, a11, a6]
        have := IV.add (f := nI l) (z := 4) hB (by omega) ho hw1 hw2 hs1 hs2 (Or.inr rfl) hy2
        exact this.frame (fun k j hk2 => up_ne (by omega))
theorem sp_ans41 {N : Nat → Nat} {A : SA} {V : SV} {l : Nat} {x : Int32} {Q : SA → SV → Prop} {K2 : SA → SV → Int32 → Prop} (hI : IV N A V) (hl : l < N 3) (h : K2 (anF A N l).1 (uv V 3 (nI ((anF A N l).2 3))) (x + 1)) : wb_X3_writeAnswers_41 Q K2 A V x (nI l) (A 9 l) := by
  obtain ⟨⟨o, ho, a9⟩, _, _, _, _, _, _, _⟩ := hI.2.2.2 l hl
  obtain ⟨hV, n0, n1, n2, n3, n4, n5, n6, n7⟩ := hI.1
  obtain ⟨⟨n, hn, a5⟩, _⟩ := hI.2.2.1 o ho
  have hin : vp_in (nI o) 16 := vp_in_nI (by omega) (by omega)
  unfold anF at h
  rw [a9, nI_clamp (by omega)] at h
  dsimp only at h
  rw [a9]
  unfold wb_X3_writeAnswers_41 wpX1_gets wb_X1_gets_0
  refine sp_has1 ?_
  rw [hV 2 (by omega), hasI_t ho (by omega), nI_clamp (by omega)]
  refine ⟨fun _ => ⟨hin, hin, fun A1 e1 => ⟨hin, ?_⟩⟩, fun q => absurd q (by decide)⟩
  have v5 : A1 5 o = A 5 o := by rw [e1, up_ne (by omega)]
  have v7 : A1 7 o = A 7 o + 1 := by rw [e1, up_eq]
  rw [v5, v7]
  have stop : K2 (up A 7 o (A 7 o + 1)) V (x + 1) → K2 A1 V (x + 1) := fun q => by rw [e1]; exact q
  by_cases q0 : A 5 o = 0
  · rw [if_pos q0] at h
    dsimp only at h
    rw [uv_same (hV 3 (by omega))] at h
    refine ⟨fun _ => ⟨fun _ => stop h, fun q => absurd rfl q⟩, fun q => absurd (by rw [q0]; exact Int32.le_refl _) q⟩
  · rw [if_neg q0] at h
    have hpos : ¬ A 5 o ≤ 0 := by
      rw [a5, show (0 : Int32) = nI 0 from rfl, nI_leI (by omega) (by omega)]
      rw [a5, show (0 : Int32) = nI 0 from rfl, nI_eq (by omega) (by omega)] at q0
      omega
    refine ⟨fun q => absurd q hpos, fun _ => ⟨hin, hin, q0, fun q1 => ?_, fun q1 => ?_⟩⟩
    · rw [if_pos q1] at h
      dsimp only at h
      rw [uv_same (hV 3 (by omega))] at h
      exact ⟨fun _ => stop h, fun q => absurd rfl q⟩
    · rw [if_neg (not_not_intro q1)] at h
      refine ⟨fun q => absurd q (by decide), fun _ => ⟨hin, ?_⟩⟩
      by_cases q2 : N 3 = 150
      · rw [if_pos q2] at h
        dsimp only at h
        rw [uv_same (hV 3 (by omega))] at h
        refine sp_answerFull (by rw [hV 3 (by omega), q2]) (by omega) ⟨fun _ => stop h, fun q => absurd rfl q⟩
      · rw [if_neg q2] at h
        dsimp only at h
        rw [nx_3] at h
        refine sp_answer (hV 3 (by omega)) (by omega) hl ⟨fun q => absurd q (by decide), fun _ => ⟨hin, hin, fun A2 e2 => ?_⟩⟩
        rw [e2, adA_ne (by omega), e1, up_ne (k := 7) (k' := 9) (by omega), up_ne (k := 7) (k' := 10) (by omega), up_ne (k := 7) (k' := 11) (by omega), up_ne (k := 7) (k' := 6) (by omega), up_ne (k := 7) (k' := 8) (by omega), a9]
        exact h
