/-! one letter, over the whole hour -/
def LT (t : Int32) (A B : SA) (k : Nat) : Prop := (B 9 k = A 9 k ∧ B 10 k = A 10 k ∧ B 11 k = A 11 k) ∧ (
  (A 12 k = 0 ∧ (B 12 k = 0 ∨ B 12 k = 1) ∧ B 13 k = A 13 k ∧ B 15 k = A 15 k) ∨
  (A 12 k = 1 ∧ t ≤ A 1 (A 14 k).toNatClampNeg ∧ B 12 k = 1 ∧ (B 13 k = A 13 k ∨ B 13 k = hv2 (A 13 k)) ∧ B 15 k = 0) ∨
  (A 12 k = 1 ∧ ¬ t ≤ A 1 (A 14 k).toNatClampNeg ∧ B 13 k = A 13 k + (1 + A 10 k / 3) ∧ ((¬ B 13 k < A 11 k ∧ B 12 k = 3) ∨ (B 13 k < A 11 k ∧ ¬ wsH t A k < 3 ∧ B 12 k = 2) ∨ (B 13 k < A 11 k ∧ wsH t A k < 3 ∧ B 12 k = 1 ∧ B 15 k = wsH t A k))) ∨
  (A 12 k = 4 ∧ (B 12 k = 4 ∨ (B 12 k = 5 ∧ ¬ (30 : Int32) < t)) ∧ B 13 k = A 13 k) ∨
  (¬ A 12 k = 0 ∧ ¬ A 12 k = 1 ∧ ¬ A 12 k = 4 ∧ B 12 k = A 12 k ∧ B 13 k = A 13 k))
theorem hr_row {N : Nat → Nat} {A : SA} {k : Nat} (hk : k < N 3) : (∀ q, 9 ≤ q → q ≤ 11 ∨ q = 15 → hrD A N q k = (hrW A N).1 q k) ∧ (hrD A N 13 k = (hrW A N).1 13 k ∨ (hrD A N 13 k = hv2 ((hrW A N).1 13 k) ∧ hrB A N 12 k = 1 ∧ hrT A N ≤ A 1 ((hrW A N).1 14 k).toNatClampNeg)) ∧ (hrD A N 12 k = hrB A N 12 k ∨ (hrB A N 12 k = 0 ∧ hrD A N 12 k = 1)) ∧ (hrB A N 12 k = (hrW A N).1 12 k ∨ ((hrW A N).1 12 k = 4 ∧ hrB A N 12 k = 5 ∧ ¬ (30 : Int32) < hrT A N)) := by
  have g : ∀ q, 9 ≤ q → (hrG A N).1 q k = (hrW A N).1 q k := fun q hq => gx_old hk hq (N 3)
  have b : ∀ q j, q ≠ 12 ∧ q ≠ 16 → hrB A N q j = (hrG A N).1 q j := fun q j hq => nr_fr (N 3) (Or.inl hq)
  have c0 : ∀ q j, q ≠ 19 → clF (hrB A N) ((hrG A N).2 3) q j = hrB A N q j := fun q j hq => clF_ne hq _ _
  have c : ∀ q j, q ≠ 13 ∧ q ≠ 19 → hrC A N q j = clF (hrB A N) ((hrG A N).2 3) q j := fun q j hq => sc_fr hq _
  have d : ∀ q j, q ≠ 3 ∧ q ≠ 12 ∧ q ≠ 14 → hrD A N q j = hrC A N q j := fun q j hq => so_fr hq _
  have a1 : ∀ j, hrB A N 1 j = A 1 j := fun j => by
    rw [b 1 j (by omega), show (hrG A N).1 1 j = (hrW A N).1 1 j from gx_fr (by omega) (N 3)]
    exact wtF_fr (by omega) (N 3)
  refine ⟨fun q h1 h2 => ?_, ?_, ?_, ?_⟩
  · rw [d q k (by omega), c q k (by omega), c0 q k (by omega), b q k (by omega), g q h1]
  · rw [d 13 k (by omega)]
    have e13 : clF (hrB A N) ((hrG A N).2 3) 13 k = (hrW A N).1 13 k := by rw [c0 13 k (by omega), b 13 k (by omega), g 13 (by omega)]
    rcases sc_at (t := hrT A N) (n := (hrG A N).2 3) (A := clF (hrB A N) ((hrG A N).2 3)) (k := k) ((hrG A N).2 5) with h | ⟨_, h1, h2, h3⟩
    · exact Or.inl (h.trans e13)
    · rw [e13] at h1
      rw [c0 12 k (by omega)] at h2
      rw [c0 1 _ (by omega), c0 14 k (by omega), b 14 k (by omega), g 14 (by omega), a1] at h3
      exact Or.inr ⟨h1, h2, h3⟩
  · have e12 : hrC A N 12 k = hrB A N 12 k := by rw [c 12 k (by omega), c0 12 k (by omega)]
    have h := so_at (N := (hrG A N).2) (A := hrC A N) (k := k) ((hrG A N).2 6)
    rw [e12] at h
    exact h
  · have h := nr_at (t := hrT A N) (A := (hrG A N).1) (k := k) (N 3)
    rw [g 12 (by omega)] at h
    exact h
theorem s31 : ¬ (3 : Int32) = 1 := by decide
theorem s30 : ¬ (3 : Int32) = 0 := by decide
theorem s34 : ¬ (3 : Int32) = 4 := by decide
theorem s21 : ¬ (2 : Int32) = 1 := by decide
theorem s20 : ¬ (2 : Int32) = 0 := by decide
theorem s24 : ¬ (2 : Int32) = 4 := by decide
theorem s14 : ¬ (1 : Int32) = 4 := by decide
theorem s10 : ¬ (1 : Int32) = 0 := by decide
theorem s51 : ¬ (5 : Int32) = 1 := by decide
theorem s50 : ¬ (5 : Int32) = 0 := by decide
theorem s04 : ¬ (0 : Int32) = 4 := by decide
theorem s40 : ¬ (4 : Int32) = 0 := by decide
theorem hr_at {N : Nat → Nat} {A : SA} {k : Nat} (hk : k < N 3) : LT (hrT A N) A (hrD A N) k := by
  obtain ⟨h9, h13, h12, hb⟩ := hr_row (A := A) hk
  rcases wt_at (t := hrT A N) (A := A) hk with ⟨n1, hw⟩ | ⟨n1, hw, hf⟩
  · have w : ∀ q, q < 18 → q ≠ 3 → (hrW A N).1 q k = A q k := hw
    rw [w 12 (by omega) (by omega)] at hb
    rw [w 13 (by omega) (by omega)] at h13
    have no1 : ¬ hrB A N 12 k = 1 := by
      rcases hb with e | ⟨_, e, _⟩
      · rw [e]; exact n1
      · rw [e]; exact s51
    have d13 : hrD A N 13 k = A 13 k := by
      rcases h13 with e | ⟨_, e, _⟩
      · exact e
      · exact absurd e no1
    refine ⟨⟨?_, ?_, ?_⟩, ?_⟩
    · rw [h9 9 (by omega) (by omega), w 9 (by omega) (by omega)]
    · rw [h9 10 (by omega) (by omega), w 10 (by omega) (by omega)]
    · rw [h9 11 (by omega) (by omega), w 11 (by omega) (by omega)]
    · by_cases z0 : A 12 k = 0
      · have b0 : hrB A N 12 k = 0 := by
          rcases hb with e | ⟨e, _⟩
          · rw [e]; exact z0
          · rw [z0] at e; exact absurd e s04
        rw [b0] at h12
        refine Or.inl ⟨z0, ?_, d13, by rw [h9 15 (by omega) (by omega), w 15 (by omega) (by omega)]⟩
        rcases h12 with e | ⟨_, e⟩
        · exact Or.inl e
        · exact Or.inr e
      · by_cases z4 : A 12 k = 4
        · refine Or.inr (Or.inr (Or.inr (Or.inl ⟨z4, ?_, d13⟩)))
          rcases hb with e | ⟨_, e, ht⟩
          · rw [e, z4] at h12
            rcases h12 with f | ⟨f, _⟩
            · exact Or.inl f
            · exact absurd f s40
          · rw [e] at h12
            rcases h12 with f | ⟨f, _⟩
            · exact Or.inr ⟨f, ht⟩
            · exact absurd f s50
        · refine Or.inr (Or.inr (Or.inr (Or.inr ⟨z0, n1, z4, ?_, d13⟩)))
          rcases hb with e | ⟨e, _⟩
          · rw [e] at h12
            rcases h12 with f | ⟨f, _⟩
            · exact f
            · exact absurd f z0
          · exact absurd e z4
  · have w : ∀ q, q < 12 → q ≠ 3 → (hrW A N).1 q k = A q k := hf
    have hw : WA (hrT A N) A (hrW A N).1 k := hw
    refine ⟨⟨?_, ?_, ?_⟩, ?_⟩
    · rw [h9 9 (by omega) (by omega), w 9 (by omega) (by omega)]
    · rw [h9 10 (by omega) (by omega), w 10 (by omega) (by omega)]
    · rw [h9 11 (by omega) (by omega), w 11 (by omega) (by omega)]
    · rcases hw with ⟨u, w12, w13, w14, w15⟩ | ⟨u, w13, hc⟩
      · rw [w12] at hb
        rw [w13] at h13
        have b1 : hrB A N 12 k = 1 := by
          rcases hb with e | ⟨e, _⟩
          · exact e
          · exact absurd e s14
        rw [b1] at h12
        refine Or.inr (Or.inl ⟨n1, u, ?_, ?_, by rw [h9 15 (by omega) (by omega)]; exact w15⟩)
        · rcases h12 with e | ⟨e, _⟩
          · exact e
          · exact absurd e s10
        · rcases h13 with e | ⟨e, _⟩
          · exact Or.inl e
          · exact Or.inr e
      · refine Or.inr (Or.inr (Or.inl ⟨n1, u, ?_⟩))
        rcases hc with ⟨c1, c2⟩ | ⟨c1, c2, c3⟩ | ⟨c1, c2, c3, c4, c5⟩
        · rw [c2] at hb
          have b3 : hrB A N 12 k = 3 := by
            rcases hb with e | ⟨e, _⟩
            · exact e
            · exact absurd e s34
          rw [b3] at h12 h13
          have e13 : hrD A N 13 k = (hrW A N).1 13 k := by
            rcases h13 with e | ⟨_, e, _⟩
            · exact e
            · exact absurd e s31
          rw [e13]
          refine ⟨w13, Or.inl ⟨c1, ?_⟩⟩
          rcases h12 with e | ⟨e, _⟩
          · exact e
          · exact absurd e s30
        · rw [c3] at hb
          have b3 : hrB A N 12 k = 2 := by
            rcases hb with e | ⟨e, _⟩
            · exact e
            · exact absurd e s24
          rw [b3] at h12 h13
          have e13 : hrD A N 13 k = (hrW A N).1 13 k := by
            rcases h13 with e | ⟨_, e, _⟩
            · exact e
            · exact absurd e s21
          rw [e13]
          refine ⟨w13, Or.inr (Or.inl ⟨c1, c2, ?_⟩)⟩
          rcases h12 with e | ⟨e, _⟩
          · exact e
          · exact absurd e s20
        · rw [c3] at hb
          have b3 : hrB A N 12 k = 1 := by
            rcases hb with e | ⟨e, _⟩
            · exact e
            · exact absurd e s14
          rw [b3] at h12
          rw [c4] at h13
          have e13 : hrD A N 13 k = (hrW A N).1 13 k := by
            rcases h13 with e | ⟨_, _, e⟩
            · exact e
            · exact absurd e u
          rw [e13]
          refine ⟨w13, Or.inr (Or.inr ⟨c1, c2, ?_, by rw [h9 15 (by omega) (by omega)]; exact c5⟩)⟩
          rcases h12 with e | ⟨e, _⟩
          · exact e
          · exact absurd e s10
/-- the letters written in the hour -/
theorem hr_new {N : Nat → Nat} {A : SA} {k : Nat} (h1 : N 3 ≤ k) (h2 : k < hrN A N 3) : hrD A N 12 k = 4 ∧ ∃ l, l < N 3 ∧ flg (hrT A N) A l = true ∧ hrD A N 17 k = nI l ∧ hrD A N 9 k = A 9 l ∧ hrD A N 16 k = A 6 (A 9 l).toNatClampNeg := by
  have h2 : k < (hrG A N).2 3 := h2
  obtain ⟨g1, l, g2, g3, g4, g5, g6⟩ := gx_new (f := flg (hrT A N) A) (A := (hrW A N).1) (N := N) (N 3) (Nat.le_refl _) k h1 h2
  have wf : ∀ q j, q ≠ 3 ∧ q ≠ 12 ∧ q ≠ 13 ∧ q ≠ 14 ∧ q ≠ 15 ∧ q ≠ 18 → (hrW A N).1 q j = A q j := fun q j hq => wtF_fr hq (N 3)
  have b : ∀ q, hrB A N q k = (hrG A N).1 q k := fun q => nr_fr (N 3) (Or.inr h1)
  have c : ∀ q, q ≠ 13 ∧ q ≠ 19 → hrC A N q k = (hrG A N).1 q k := fun q hq => by
    rw [← b q, ← clF_ne (A := hrB A N) hq.2 ((hrG A N).2 3) k]
    exact sc_fr hq _
  have d : ∀ q, q ≠ 3 ∧ q ≠ 12 ∧ q ≠ 13 ∧ q ≠ 14 ∧ q ≠ 19 → hrD A N q k = (hrG A N).1 q k := fun q hq => by
    rw [← c q (by omega)]
    exact so_fr (by omega) _
  refine ⟨?_, l, g2, g3, ?_, ?_, ?_⟩
  · have h := so_at (N := (hrG A N).2) (A := hrC A N) (k := k) ((hrG A N).2 6)
    rw [c 12 (by omega), show (hrG A N).1 12 k = 4 from g1] at h
    rcases h with e | ⟨e, _⟩
    · exact e
    · exact absurd e s40
  · rw [d 17 (by omega)]; exact g4
  · rw [d 9 (by omega), ← wf 9 l (by omega)]; exact g5
  · rw [d 16 (by omega), ← wf 9 l (by omega), ← wf 6 _ (by omega)]; exact g6
theorem wtF_st {t : Int32} {A : SA} {l q : Nat} (h1 : q < 18) (h2 : q ≠ 3) : ∀ d, (wtF t A (l + 1 + d)).1 q l = (wtF t A (l + 1)).1 q l := by
  intro d
  induction d with
  | zero => rfl
  | succ d ih =>
    rw [show l + 1 + (d + 1) = (l + 1 + d) + 1 from rfl]
    by_cases c : (wtF t A (l + 1 + d)).1 12 (l + 1 + d) = 1
    · rw [wtF_t c, washF_ne h1 h2 (by omega)]; exact ih
    · rw [wtF_f c]; exact ih
/-- who went down -/
theorem hr_flg {N : Nat → Nat} {A : SA} {k : Nat} (hk : k < N 3) : flg (hrT A N) A k = true ↔ (hrD A N 12 k = 2 ∧ ¬ A 12 k = 2) := by
  have hne : (wtF (hrT A N) A k).1 12 k = A 12 k := wtF_ne (by omega) (by omega) k (Nat.le_refl _)
  by_cases z1 : A 12 k = 1
  · rw [flg_2 (by rw [hne]; exact z1), z1]
    have e := wtF_st (t := hrT A N) (A := A) (l := k) (q := 12) (by omega) (by omega) (N 3 - (k + 1))
    rw [show k + 1 + (N 3 - (k + 1)) = N 3 by omega] at e
    rw [← e]
    obtain ⟨_, _, h12, hb⟩ := hr_row (A := A) hk
    have hb : hrB A N 12 k = (wtF (hrT A N) A (N 3)).1 12 k ∨ ((wtF (hrT A N) A (N 3)).1 12 k = 4 ∧ hrB A N 12 k = 5 ∧ ¬ (30 : Int32) < hrT A N) := hb
    constructor
    · intro h
      rw [h] at hb
      refine ⟨?_, by decide⟩
      rcases hb with f | ⟨f, _⟩
      · rw [f] at h12
        rcases h12 with g | ⟨g, _⟩
        · exact g
        · exact absurd g s20
      · exact absurd f s24
    · rintro ⟨h, _⟩
      rw [h] at h12
      rcases h12 with g | ⟨_, g⟩
      · rw [← g] at hb
        rcases hb with f | ⟨_, f, _⟩
        · exact f.symm
        · exact absurd f (by decide)
      · exact absurd g s21
  · rw [flg_f (by rw [hne]; exact z1)]
    refine ⟨fun h => absurd h (by decide), ?_⟩
    rintro ⟨h, h2⟩
    exfalso
    rcases (hr_at (A := A) hk).2 with ⟨_, c, _⟩ | ⟨c, _⟩ | ⟨c, _⟩ | ⟨_, c, _⟩ | ⟨_, _, _, c, _⟩
    · rw [h] at c
      rcases c with c | c
      · exact s20 c
      · exact s21 c
    · exact z1 c
    · exact z1 c
    · rw [h] at c
      rcases c with c | ⟨c, _⟩
      · exact s24 c
      · exact absurd c (by decide)
    · exact h2 (by rw [← c]; exact h)
/-! THE SUMS over the drowned -/
def sumN (f : Nat → Nat) : Nat → Nat
  | 0 => 0
  | n + 1 => sumN f n + f n
theorem sumN_le {f : Nat → Nat} {n o : Nat} (h : o < n) : f o ≤ sumN f n := by
  induction n with
  | zero => omega
  | succ n ih =>
    unfold sumN
    by_cases e : o = n
    · rw [e]; omega
    · have := ih (by omega); omega
theorem sumN_congr {f g : Nat → Nat} {n : Nat} (h : ∀ j, j < n → f j = g j) : sumN f n = sumN g n := by
  induction n with
  | zero => rfl
  | succ n ih =>
    unfold sumN
    rw [ih (fun j hj => h j (by omega)), h n (by omega)]
def bmp (f : Nat → Nat) (o : Nat) : Nat → Nat := fun q => if q = o then f q + 1 else f q
theorem sumN_bmp {f : Nat → Nat} {n o : Nat} (h : o < n) : sumN (bmp f o) n = sumN f n + 1 := by
  induction n with
  | zero => omega
  | succ n ih =>
    unfold sumN
    by_cases e : o = n
    · subst e
      rw [sumN_congr (g := f) (fun j hj => by unfold bmp; rw [if_neg (by omega)])]
      unfold bmp
      rw [if_pos rfl]; omega
    · rw [ih (by omega)]
      unfold bmp
      rw [if_neg (by omega)]; omega
/-- one of the drowned: what it got and wrote -/
def DRW (n3 : Nat) (A : SA) (G W : Nat → Nat) (o : Nat) : Prop := A 7 o = nI (G o) ∧ A 8 o = nI (W o) ∧ ∃ n, A 5 o = nI n ∧ n ≤ 5 ∧ (n = 0 → W o = 0) ∧ (0 < n → W o ≤ G o / n ∧ (n3 < 150 → W o = G o / n))
theorem DRW.congr {n3 : Nat} {A B : SA} {G W : Nat → Nat} {o : Nat} (h : DRW n3 A G W o) (e5 : B 5 o = A 5 o) (e7 : B 7 o = A 7 o) (e8 : B 8 o = A 8 o) : DRW n3 B G W o := by
  unfold DRW at h ⊢
  rw [e5, e7, e8]; exact h
theorem gx_sum {f : Nat → Bool} {A : SA} {N : Nat → Nat} {V : SV} {G W : Nat → Nat} (hI : IV N A V) (hr : ∀ o, o < N 2 → DRW (N 3) A G W o) (hG : sumN G (N 2) + N 3 < 1000) : ∀ m, m ≤ N 3 → ∃ G' W', (∀ o, o < N 2 → DRW ((gxF f A N m).2 3) (gxF f A N m).1 G' W' o) ∧ sumN G' (N 2) = sumN G (N 2) + cnt f m ∧ sumN W' (N 2) + N 3 = sumN W (N 2) + (gxF f A N m).2 3 := by
  have hn3 : N 3 ≤ 150 := hI.n3
  have hn2 : N 2 ≤ 16 := hI.n2
  intro m
  induction m with
  | zero => intro _; exact ⟨G, W, hr, rfl, rfl⟩
  | succ m ih =>
    intro hm
    obtain ⟨G1, W1, r1, g1, w1⟩ := ih (by omega)
    by_cases h : f m = true
    · have hle := cnt_le f m
      have hIm := gx_IV (f := f) hI m (by omega)
      have hm3 : m < (gxF f A N m).2 3 := Nat.lt_of_lt_of_le (by omega) (gx_ge m)
      obtain ⟨⟨o, ho, a9⟩, _⟩ := hIm.2.2.2 m hm3
      have e2 : (gxF f A N m).2 2 = N 2 := gx_ne m 2 (by omega)
      rw [e2] at ho
      have n150 : (gxF f A N m).2 3 ≤ 150 := hIm.n3
      rw [gx_t h]
      rw [cnt_s1 h]
      generalize hX : (gxF f A N m).1 = X at r1 a9 ⊢
      generalize hM : (gxF f A N m).2 = M at r1 w1 n150 ⊢
      obtain ⟨p7, p8, n, p5, pn, q0, qn⟩ := r1 o ho
      have gb : G1 o ≤ sumN G1 (N 2) := sumN_le ho
      have sG : sumN (bmp G1 o) (N 2) = sumN G (N 2) + (cnt f m + 1) := by rw [sumN_bmp ho]; omega
      have e7 : X 7 o + 1 = nI (G1 o + 1) := by rw [p7, nI_1]
      have bo : bmp G1 o o = G1 o + 1 := if_pos rfl
      have bne : ∀ o', o' ≠ o → bmp G1 o o' = G1 o' := fun o' e => if_neg e
      have bw : ∀ (W : Nat → Nat) o', o' ≠ o → bmp W o o' = W o' := fun W o' e => if_neg e
      -- no letter is written
      have stop : ((0 < n → ¬ (G1 o + 1) % n = 0) ∨ M 3 = 150) → ∃ G' W', (∀ o', o' < N 2 → DRW (M 3) (up X 7 o (X 7 o + 1)) G' W' o') ∧ sumN G' (N 2) = sumN G (N 2) + (cnt f m + 1) ∧ sumN W' (N 2) + N 3 = sumN W (N 2) + M 3 := by
        intro hs
        refine ⟨bmp G1 o, W1, fun o' ho' => ?_, sG, w1⟩
        by_cases e : o' = o
        · subst e
          refine ⟨by rw [up_eq, e7, bo], by rw [up_ne (by omega)]; exact p8, n, by rw [up_ne (by omega)]; exact p5, pn, q0, fun hn => ?_⟩
          rw [bo]
          obtain ⟨k1, k2⟩ := qn hn
          have kmono : G1 o' / n ≤ (G1 o' + 1) / n := Nat.div_le_div_right (Nat.le_succ _)
          rcases hs with hs | hs
          · have hs := hs hn
            have ke : (G1 o' + 1) / n = G1 o' / n := by
              rcases (show n = 1 ∨ n = 2 ∨ n = 3 ∨ n = 4 ∨ n = 5 by omega) with e | e | e | e | e <;> subst e <;> omega
            rw [ke]
            exact ⟨k1, k2⟩
          · exact ⟨Nat.le_trans k1 kmono, fun h150 => absurd h150 (by omega)⟩
        · obtain ⟨s7, s8, s9⟩ := r1 o' ho'
          refine ⟨by rw [up_ne (by omega), bne o' e]; exact s7, by rw [up_ne (by omega)]; exact s8, ?_⟩
          obtain ⟨n', s5, t1, t2, t3⟩ := s9
          exact ⟨n', by rw [up_ne (by omega)]; exact s5, t1, t2, by rw [bne o' e]; exact t3⟩
      unfold anF
      rw [a9, nI_clamp (by omega)]
      dsimp only
      by_cases z0 : X 5 o = 0
      · rw [if_pos z0]
        dsimp only
        refine stop (Or.inl (fun hn => ?_))
        rw [p5, show (0 : Int32) = nI 0 from rfl, nI_eq (by omega) (by omega)] at z0
        omega
      · rw [if_neg z0]
        have hn0 : 0 < n := by
          rcases Nat.eq_zero_or_pos n with e | e
          · rw [p5, e] at z0; exact absurd rfl z0
          · exact e
        have er : (X 7 o + 1) - (X 7 o + 1) / X 5 o * X 5 o = nI ((G1 o + 1) % n) := by
          rw [e7, p5]
          exact pk_rem (by omega) hn0 (by omega)
        have hlt : (G1 o + 1) % n < 5 + 1 := Nat.lt_of_lt_of_le (Nat.mod_lt _ hn0) (by omega)
        by_cases z1 : (G1 o + 1) % n = 0
        · rw [if_neg (by rw [er, z1]; exact not_not_intro rfl)]
          by_cases z2 : M 3 = 150
          · rw [if_pos z2]
            exact stop (Or.inr z2)
          · rw [if_neg z2]
            dsimp only
            rw [nx_3]
            refine ⟨bmp G1 o, bmp W1 o, fun o' ho' => ?_, sG, by rw [sumN_bmp ho]; omega⟩
            by_cases e : o' = o
            · subst e
              refine ⟨?_, ?_, n, ?_, pn, fun hn => absurd hn (by omega), fun _ => ?_⟩
              · rw [up_ne (by omega), adA_ne (by omega), up_eq, e7, bo]
              · rw [up_eq, p8, nI_1]
                unfold bmp; rw [if_pos rfl]
              · rw [up_ne (by omega), adA_ne (by omega), up_ne (by omega)]; exact p5
              · have bwo : bmp W1 o' o' = W1 o' + 1 := if_pos rfl
                rw [bo, bwo]
                have k2 := (qn hn0).2 (by omega)
                have ke : W1 o' + 1 = (G1 o' + 1) / n := by
                  rw [k2]
                  rcases (show n = 1 ∨ n = 2 ∨ n = 3 ∨ n = 4 ∨ n = 5 by omega) with e | e | e | e | e <;> subst e <;> omega
                rw [ke]
                exact ⟨Nat.le_refl _, fun _ => rfl⟩
            · obtain ⟨s7, s8, n', s5, t1, t2, t3⟩ := r1 o' ho'
              refine ⟨by rw [up_ne (by omega), adA_ne (by omega), up_ne (by omega), bne o' e]; exact s7, by rw [up_ne (by omega), adA_ne (by omega), up_ne (by omega), bw W1 o' e]; exact s8, n', by rw [up_ne (by omega), adA_ne (by omega), up_ne (by omega)]; exact s5, t1, by rw [bw W1 o' e]; exact t2, fun hn => ?_⟩
              rw [bw W1 o' e, bne o' e]
              exact ⟨(t3 hn).1, fun h150 => (t3 hn).2 (by omega)⟩
        · rw [if_pos (by
            rw [er, show (0 : Int32) = nI 0 from rfl, nI_eq (by omega) (by omega)]; exact z1)]
          exact stop (Or.inl (fun _ => z1))
    · rw [gx_f h, cnt_s0 (by cases hf : f m with | false => rfl | true => exact absurd hf h)]
      exact ⟨G1, W1, r1, g1, w1⟩
/-! counts -/
theorem cnt_add {h f g : Nat → Bool} {n : Nat} (e : ∀ j, j < n → (if h j = true then 1 else 0) = (if f j = true then 1 else 0) + (if g j = true then 1 else 0)) : cnt h n = cnt f n + cnt g n := by
  induction n with
  | zero => rfl
  | succ n ih =>
    unfold cnt
    have := ih (fun j hj => e j (by omega))
    have := e n (by omega)
    omega
theorem cnt_out {f : Nat → Bool} {a : Nat} : ∀ d, (∀ j, a ≤ j → j < a + d → f j = false) → cnt f (a + d) = cnt f a := by
  intro d
  induction d with
  | zero => exact fun _ => rfl
  | succ d ih =>
    intro h
    rw [show a + (d + 1) = (a + d) + 1 from rfl, cnt_s0 (h (a + d) (by omega) (by omega))]
    exact ih (fun j h1 h2 => h j h1 (by omega))
theorem cnt_all {f : Nat → Bool} {a : Nat} : ∀ d, (∀ j, a ≤ j → j < a + d → f j = true) → cnt f (a + d) = cnt f a + d := by
  intro d
  induction d with
  | zero => exact fun _ => rfl
  | succ d ih =>
    intro h
    rw [show a + (d + 1) = (a + d) + 1 from rfl, cnt_s1 (h (a + d) (by omega) (by omega)), ih (fun j h1 h2 => h j h1 (by omega))]
    omega
def GI (N : Nat → Nat) (A : SA) : Prop := ∃ G W : Nat → Nat, (∀ o, o < N 2 → DRW (N 3) A G W o) ∧ sumN G (N 2) = cnt (fun l => decide (A 12 l = 2)) (N 3) ∧ sumN W (N 2) = cnt (fun l => decide (A 12 l = 4 ∨ A 12 l = 5)) (N 3)
theorem wt_cnt {t : Int32} {A : SA} : ∀ m, (wtF t A m).2 = cnt (flg t A) m := by
  intro m
  induction m with
  | zero => rfl
  | succ m ih =>
    rcases wtF_c (t := t) (A := A) (m := m) with ⟨h1, h2, _⟩ | ⟨h1, h2, _⟩
    · rw [cnt_s1 h1, h2, ih]
    · rw [cnt_s0 h1, h2, ih]
theorem ite_d {p : Prop} {d : Decidable p} : (if (@decide p d) = true then 1 else 0 : Nat) = @ite Nat p d 1 0 := by
  cases d with
  | isTrue h => rfl
  | isFalse h => rfl
theorem hr_22 {N : Nat → Nat} {A : SA} {k : Nat} (hk : k < N 3) (h : A 12 k = 2) : hrD A N 12 k = 2 := by
  rcases (hr_at (A := A) hk).2 with ⟨c, _⟩ | ⟨c, _⟩ | ⟨c, _⟩ | ⟨c, _⟩ | ⟨_, _, _, c, _⟩
  · rw [h] at c; exact absurd c s20
  · rw [h] at c; exact absurd c s21
  · rw [h] at c; exact absurd c s21
  · rw [h] at c; exact absurd c s24
  · rw [c]; exact h
theorem hr_45 {N : Nat → Nat} {A : SA} {k : Nat} (hk : k < N 3) : (hrD A N 12 k = 4 ∨ hrD A N 12 k = 5) ↔ (A 12 k = 4 ∨ A 12 k = 5) := by
  rcases (hr_at (A := A) hk).2 with ⟨c, d, _⟩ | ⟨c, _, d, _⟩ | ⟨c, _, _, d⟩ | ⟨c, d, _⟩ | ⟨_, _, _, c, _⟩
  · rw [c]
    refine ⟨fun h => ?_, fun h => absurd h (by decide)⟩
    rcases d with d | d <;> rw [d] at h <;> exact absurd h (by decide)
  · rw [c, d]
  · rw [c]
    refine ⟨fun h => ?_, fun h => absurd h (by decide)⟩
    rcases d with ⟨_, d⟩ | ⟨_, _, d⟩ | ⟨_, _, d, _⟩ <;> rw [d] at h <;> exact absurd h (by decide)
  · refine ⟨fun _ => Or.inl c, fun _ => ?_⟩
    rcases d with d | ⟨d, _⟩
    · exact Or.inl d
    · exact Or.inr d
  · rw [c]
theorem GI.hour {N : Nat → Nat} {A : SA} {V : SV} (hI : IV N A V) (hG : GI N A) : GI (hrN A N) (hrD A N) := by
  obtain ⟨G, W, hr, sG, sW⟩ := hG
  have n3 := hI.n3
  have wf : ∀ q j, q = 5 ∨ q = 7 ∨ q = 8 → (hrW A N).1 q j = A q j := fun q j hq => wtF_fr (by omega) (N 3)
  have i1 := (hr_IVs hI).1
  have cl := cnt_le (fun l => decide (A 12 l = 2)) (N 3)
  obtain ⟨G', W', r', g', w'⟩ := gx_sum (f := flg (hrT A N) A) (G := G) (W := W) i1 (fun o ho => (hr o ho).congr (wf 5 o (by omega)) (wf 7 o (by omega)) (wf 8 o (by omega))) (by omega) (N 3) (Nat.le_refl _)
  have fr : ∀ q j, q = 5 ∨ q = 7 ∨ q = 8 → hrD A N q j = (hrG A N).1 q j := fun q j hq => by
    rw [show hrD A N q j = hrC A N q j from so_fr (by omega) _, show hrC A N q j = clF (hrB A N) ((hrG A N).2 3) q j from sc_fr (by omega) _, clF_ne (by omega)]
    exact nr_fr (N 3) (Or.inl (by omega))
  have e2 : hrN A N 2 = N 2 := gx_ne (N 3) 2 (by omega)
  have e3 : hrN A N 3 = (hrG A N).2 3 := rfl
  have g0 : N 3 ≤ hrN A N 3 := hr_N3
  have w2 : sumN W' (N 2) + N 3 = sumN W (N 2) + hrN A N 3 := w'
  obtain ⟨d, hd⟩ : ∃ d, hrN A N 3 = N 3 + d := ⟨hrN A N 3 - N 3, by omega⟩
  refine ⟨G', W', fun o ho => ?_, ?_, ?_⟩
  · rw [e2] at ho
    exact (r' o ho).congr (fr 5 o (by omega)) (fr 7 o (by omega)) (fr 8 o (by omega))
  · rw [e2, g', sG, hd, cnt_out d (fun j h1 h2 => ?_)]
    · refine (cnt_add (fun j hj => ?_)).symm
      have hf := hr_flg (A := A) hj
      by_cases a2 : A 12 j = 2
      · have d2 := hr_22 hj a2
        have nf : ¬ flg (hrT A N) A j = true := fun h => (hf.mp h).2 a2
        simp [d2, a2, nf]
      · by_cases d2 : hrD A N 12 j = 2
        · have f1 := hf.mpr ⟨d2, a2⟩
          simp [d2, a2, f1]
        · have nf : ¬ flg (hrT A N) A j = true := fun h => d2 (hf.mp h).1
          simp [d2, a2, nf]
    · rw [(hr_new (A := A) h1 (by omega)).1]; decide
  · rw [e2, hd, cnt_all d (fun j h1 h2 => ?_)]
    · have c : cnt (fun l => decide (hrD A N 12 l = 4 ∨ hrD A N 12 l = 5)) (N 3) = cnt (fun l => decide (A 12 l = 4 ∨ A 12 l = 5)) (N 3) := cnt_congr (fun j hj => decide_eq_decide.mpr (hr_45 hj))
      rw [c]; omega
    · rw [(hr_new (A := A) h1 (by omega)).1]; decide
theorem hr_down {N : Nat → Nat} {A : SA} : (hrW A N).2 = cnt (fun l => decide (hrD A N 12 l = 2 ∧ ¬ A 12 l = 2)) (N 3) := by
  rw [show (hrW A N).2 = cnt (flg (hrT A N) A) (N 3) from wt_cnt (N 3)]
  refine cnt_congr (fun j hj => ?_)
  have h := hr_flg (A := A) hj
  cases hf : flg (hrT A N) A j with
  | true => exact (decide_eq_true (h.mp hf)).symm
  | false => exact (decide_eq_false (fun q => by rw [h.mpr q] at hf; cases hf)).symm
theorem hr_fr {N : Nat → Nat} {A : SA} {q j : Nat} (h : q ≠ 3 ∧ q ≠ 7 ∧ q ≠ 8 ∧ q < 7) : hrD A N q j = A q j := by
  rw [show hrD A N q j = hrC A N q j from so_fr (by omega) _, show hrC A N q j = clF (hrB A N) ((hrG A N).2 3) q j from sc_fr (by omega) _, clF_ne (by omega), show hrB A N q j = (hrG A N).1 q j from nr_fr (N 3) (Or.inl (by omega)), show (hrG A N).1 q j = (hrW A N).1 q j from gx_fr (by omega) (N 3)]
  exact wtF_fr (by omega) (N 3)
