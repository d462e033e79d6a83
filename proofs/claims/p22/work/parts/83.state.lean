/-! THE STATE: the class's arrays A and numbers V are the state itself; N: its numbers as naturals (0 tides, 1 bins, 2 drowned, 3 letters, 4 hour, 5 scrapers, 6 sorters) -/
/-- how many letters lie in the bin b -/
def fil (n : Nat) (A : SA) (b : Nat) : Nat := cnt (fun l => decide (A 12 l = 1 ∧ A 14 l = nI b)) n
/-- a letter: to whom, weight, seal, state, barnacles, bin, held, hours -/
def LI (N : Nat → Nat) (A : SA) (l : Nat) : Prop :=
  (∃ o, o < N 2 ∧ A 9 l = nI o) ∧ (∃ w, 1 ≤ w ∧ w ≤ 9 ∧ A 10 l = nI w) ∧ (∃ q, 1 ≤ q ∧ q ≤ 60 ∧ A 11 l = nI q) ∧ (∃ z, z ≤ 5 ∧ A 12 l = nI z) ∧
  (∃ g, g ≤ 64 ∧ A 13 l = nI g ∧ ((A 12 l = 0 ∨ A 12 l = 1) → g ≤ 60)) ∧ ((A 12 l = 1 ∧ ∃ b, b < N 1 ∧ A 14 l = nI b) ∨ (¬ A 12 l = 1 ∧ A 14 l = -1 ∧ A 15 l = 0)) ∧
  (∃ h, h ≤ 2 ∧ A 15 l = nI h) ∧ (∃ y, y ≤ 60 ∧ A 16 l = nI y)
/-- the numbers, and their bounds -/
def NI (N : Nat → Nat) (V : SV) : Prop := (∀ k, k < 7 → V k = nI (N k)) ∧ 1 ≤ N 0 ∧ N 0 ≤ 30 ∧ N 1 ≤ 10 ∧ N 2 ≤ 16 ∧ N 3 ≤ 150 ∧ N 4 ≤ 2 ^ 20 ∧ N 5 ≤ 9 ∧ N 6 ≤ 9
def BI (N : Nat → Nat) (A : SA) : Prop := ∀ b, b < N 1 → ∃ r, 1 ≤ r ∧ r ≤ 20 ∧ A 2 b = nI r ∧ fil (N 3) A b ≤ r ∧ A 3 b = nI (fil (N 3) A b)
def DI (N : Nat → Nat) (A : SA) : Prop := ∀ o, o < N 2 → (∃ n, n ≤ 5 ∧ A 5 o = nI n) ∧ (∃ g, 1 ≤ g ∧ g ≤ 60 ∧ A 6 o = nI g)
def IV (N : Nat → Nat) (A : SA) (V : SV) : Prop := NI N V ∧ BI N A ∧ DI N A ∧ ∀ l, l < N 3 → LI N A l
/-- a letter leaves its bin b -/
def lvA (A : SA) (l b : Nat) (st : Int32) : SA := up (up (up (up A 3 b (A 3 b - 1)) 14 l (-1)) 15 l 0) 12 l st
theorem sp_leaveBin {N : Nat → Nat} {A : SA} {V : SV} {l b : Nat} {st : Int32} {Q : SA → SV → Prop} (hN : NI N V) (hl : l < N 3) (hb : b < N 1) (hA : A 14 l = nI b) (h : Q (lvA A l b st) V) : wpX3_leaveBin A V (nI l) st Q := by
  obtain ⟨hV, n0, n1, n2, n3, n4, n5, n6, n7⟩ := hN
  have hin : vp_in (nI l) 150 := vp_in_nI (by omega) (by omega)
  unfold wpX3_leaveBin wb_X3_leaveBin_0
  refine sp_has2 ?_
  rw [hV 3 (by omega), hasI_t hl (by omega)]
  refine ⟨fun _ => ⟨hin, sp_has0 ?_⟩, fun q => absurd q (by decide)⟩
  rw [nI_clamp (by omega), hA, hV 1 (by omega), hasI_t hb (by omega)]
  refine ⟨fun q => absurd q (by decide), fun _ => ⟨vp_in_nI (by omega) (by omega), vp_in_nI (by omega) (by omega), fun A1 e1 => ?_⟩⟩
  rw [nI_clamp (by omega)] at e1
  unfold wb_X3_leaveBin_46
  rw [nI_clamp (by omega)]
  refine ⟨hin, fun A2 e2 => ⟨hin, fun A3 e3 => ⟨hin, fun A4 e4 => ?_⟩⟩⟩
  rw [e4, e3, e2, e1]
  exact h
/-- one letter in a bin, in an hour of tide t: the arrays behind, and how many have gone down by then -/
def washF (t : Int32) (A : SA) (c l : Nat) : SA × Nat :=
  if t ≤ A 1 (A 14 l).toNatClampNeg then (up A 15 l 0, c)
  else
    let h : Int32 := if t < A 4 (A 9 l).toNatClampNeg then 0 else A 15 l + 1
    let B := up (up A 13 l (A 13 l + (1 + A 10 l / 3))) 15 l h
    if B 13 l < B 11 l then (if h < 3 then (B, c) else (up (lvA B l (A 14 l).toNatClampNeg 2) 18 c (nI l), c + 1))
    else (lvA B l (A 14 l).toNatClampNeg 3, c)
theorem uv_7 (V : SV) (a b : Int32) : uv (uv V 7 a) 7 b = uv V 7 b := by
  funext k
  rw [uv_at, uv_at, uv_at]
  split <;> rfl
theorem NI.uv7 {N : Nat → Nat} {V : SV} {a : Int32} (h : NI N V) : NI N (uv V 7 a) := ⟨fun k hk => by rw [uv_at, if_neg (by omega)]; exact h.1 k hk, h.2⟩
theorem sp_wash {N : Nat → Nat} {A : SA} {V : SV} {c l b o : Nat} {t : Int32} {Q : SA → SV → Prop} (hN : NI N V) (hl : l < N 3) (hb : b < N 1) (hA : A 14 l = nI b) (ho : o < N 2) (hA9 : A 9 l = nI o) (hV7 : V 7 = nI c) (hc : c < 150) (h : Q (washF t A c l).1 (uv V 7 (nI (washF t A c l).2))) : wpX3_wash A V (nI l) t Q := by
  have hN2 := hN
  obtain ⟨hV, n0, n1, n2, n3, n4, n5, n6, n7⟩ := hN2
  have hin : vp_in (nI l) 150 := vp_in_nI (by omega) (by omega)
  have hVe : uv V 7 (nI c) = V := by
    funext k
    rw [uv_at]
    split
    · rename_i e; rw [e, hV7]
    · rfl
  unfold wpX3_wash wb_X3_wash_0
  rw [nI_clamp (by omega)]
  refine ⟨hin, ?_⟩
  rw [hA]
  refine sp_isUnder (hV 1 (by omega)) n2 hb ?_
  unfold washF at h
  rw [hA, nI_clamp (by omega)] at h
  by_cases hu : t ≤ A 1 b
  · rw [if_pos hu] at h ⊢
    rw [hVe] at h
    refine ⟨fun _ => ?_, fun q => absurd rfl q⟩
    unfold wb_X3_wash_47
    refine ⟨fun _ => ?_, fun q => absurd rfl q⟩
    unfold wb_X3_wash_76
    refine ⟨fun _ => ?_, fun q => absurd rfl q⟩
    unfold wb_X3_wash_106
    rw [nI_clamp (by omega)]
    refine ⟨hin, fun A1 e1 => ⟨fun _ => ?_, fun q => absurd rfl q⟩⟩
    unfold wb_X3_wash_141
    rw [nI_clamp (by omega)]
    refine ⟨hin, fun _ => ?_, fun q => absurd ?_ q⟩
    · rw [e1]; exact h
    · rw [e1, up_eq]; decide
  · rw [if_neg hu] at h ⊢
    refine ⟨fun q => absurd q (by decide), fun _ => ⟨hin, hin, by decide, hin, fun A1 e1 => ?_⟩⟩
    have a9 : A1 9 l = nI o := by rw [e1, up_ne (by omega)]; exact hA9
    have a14 : A1 14 l = nI b := by rw [e1, up_ne (by omega)]; exact hA
    have a15 : A1 15 l = A 15 l := by rw [e1, up_ne (by omega)]
    have a4 : A1 4 o = A 4 o := by rw [e1, up_ne (by omega)]
    rw [hA9, nI_clamp (by omega)] at h
    unfold wb_X3_wash_47
    rw [nI_clamp (by omega)]
    refine ⟨fun q => absurd q (by decide), fun _ => ⟨hin, ?_⟩⟩
    rw [a9]
    refine sp_heightOf (hV 2 (by omega)) n3 ho ?_
    rw [a4]
    -- the held hours, whichever they are
    have key : ∀ hh : Int32, Q (if (up A1 15 l hh) 13 l < (up A1 15 l hh) 11 l then (if hh < 3 then (up A1 15 l hh, c) else (up (lvA (up A1 15 l hh) l b 2) 18 c (nI l), c + 1)) else (lvA (up A1 15 l hh) l b 3, c)).1 (uv V 7 (nI (if (up A1 15 l hh) 13 l < (up A1 15 l hh) 11 l then (if hh < 3 then (up A1 15 l hh, c) else (up (lvA (up A1 15 l hh) l b 2) 18 c (nI l), c + 1)) else (lvA (up A1 15 l hh) l b 3, c)).2)) → wb_X3_wash_106 Q A1 V (nI l) 1 (nI l) hh := by
      intro hh hq
      unfold wb_X3_wash_106
      rw [nI_clamp (by omega)]
      refine ⟨hin, fun A2 e2 => ⟨fun q => absurd q (by decide), fun _ => ⟨hin, hin, fun q => ?_, fun q => ?_⟩⟩⟩
      · rw [e2] at q
        rw [if_pos q] at hq
        unfold wb_X3_wash_141
        rw [nI_clamp (by omega), hV7]
        have e15 : A2 15 l = hh := by rw [e2, up_eq]
        rw [e15]
        refine ⟨hin, fun q2 => ?_, fun q2 => ⟨fun q3 => absurd q3 ?_, fun _ => ?_⟩⟩
        · rw [if_pos q2, hVe] at hq
          rw [e2]; exact hq
        · exact fun q4 => absurd ((nI_leI (a := 150) (by omega) (by omega)).mp q4) (by omega)
        · rw [if_neg q2] at hq
          refine sp_leaveBin hN hl hb (by rw [e2, up_ne (by omega)]; exact a14) ?_
          rw [hV7, nI_clamp (by omega)]
          refine ⟨vp_in_nI (by omega) (by omega), fun A3 e3 V3 e4 => ?_⟩
          rw [e3, e4, e2, nI_1]
          exact hq
      · rw [e2] at q
        rw [if_neg q, hVe] at hq
        refine sp_leaveBin hN hl hb (by rw [e2, up_ne (by omega)]; exact a14) ?_
        rw [e2]; exact hq
    refine ⟨fun q => ?_, fun q => ?_⟩
    · rw [if_pos q] at h
      unfold wb_X3_wash_76
      refine ⟨fun _ => key 0 ?_, fun q => absurd rfl q⟩
      rw [e1]; exact h
    · rw [if_neg q] at h
      unfold wb_X3_wash_76
      rw [nI_clamp (by omega)]
      refine ⟨fun q => absurd q (by decide), fun _ => ⟨hin, key _ ?_⟩⟩
      rw [a15, e1]; exact h

