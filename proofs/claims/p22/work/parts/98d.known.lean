/-! A LETTER THAT THE LAW KNEW -/
def RTp (t a b : Int32) : Prop := b = a ∨ (a = 0 ∧ b = 1) ∨ ((a = 1 ∧ (b = 2 ∨ b = 3)) ∨ (a = 4 ∧ b = 5 ∧ ¬ (30 : Int32) < t))
theorem LT.rt {t : Int32} {A B : SA} {k : Nat} (h : LT t A B k) : RTp t (A 12 k) (B 12 k) := by
  rcases h.2 with ⟨c, d, _⟩ | ⟨c, _, d, _⟩ | ⟨c, _, _, d⟩ | ⟨c, d, _⟩ | ⟨_, _, _, c, _⟩
  · rcases d with d | d
    · exact Or.inl (by rw [c, d])
    · exact Or.inr (Or.inl ⟨c, d⟩)
  · exact Or.inl (by rw [c, d])
  · rcases d with ⟨_, d⟩ | ⟨_, _, d⟩ | ⟨_, _, d, _⟩
    · exact Or.inr (Or.inr (Or.inl ⟨c, Or.inr d⟩))
    · exact Or.inr (Or.inr (Or.inl ⟨c, Or.inl d⟩))
    · exact Or.inl (by rw [c, d])
  · rcases d with d | ⟨d, e⟩
    · exact Or.inl (by rw [c, d])
    · exact Or.inr (Or.inr (Or.inr ⟨c, d, e⟩))
  · exact Or.inl c
section KNW
variable {cl : Int32 → Int32} {hB hD : Nat → Int32} {K46 : Nat → SA → SV → SA → SV → SA → Int32 → Int32 → Prop} {K207 : Nat → SA → SV → SA → SV → SA → Int32 → Int32 → Int32 → Int32 → Int32 → Int32 → Prop} {k0 k : Nat} {N M : Nat → Nat} {A B : SA} {V0 V : SV} {A2 : SA} {V2 : SV} {L : SA} {x7 t x11 x12 : Int32}
theorem ckKnown (hI : IV N A V0) (hI' : IV M B V) (hk : k < N 3) (hkM : k < M 3) (hlt : LT t A B k) (hL1 : L 1 k = A 13 k) (hL2 : A 12 k = 1 → L 2 k = A 15 k) (hL3 : L 3 k = A 14 k) (eB : ∀ b, b < N 1 → hB b = A 1 b) (eD : ∀ o, o < N 2 → hD o = A 4 o) (hK : K207 k0 B V A2 V2 (up L 2 k (covI t A k)) (nI (N 3)) x7 t x11 x12 (nI (k + 1))) : wb_L_law_417 cl (N 1) (N 2) hB hD K46 K207 k0 B V A2 V2 L (nI (N 3)) x7 t x11 x12 (nI k) (B 12 k) (B 13 k) (A 12 k) 1 := by
  have n1 := hI.n1
  have n2 := hI.n2
  have n3 := hI.n3
  obtain ⟨⟨o, ho, a9⟩, ⟨w, hw1, hw2, a10⟩, ⟨s, hs1, hs2, a11⟩, ⟨z, hz, a12⟩, ⟨g, hg, a13, hg2⟩, hbin, ⟨hh, hh2, a15⟩, ⟨y, hy, a16⟩⟩ := hI.2.2.2 k hk
  obtain ⟨_, _, _, _, ⟨gB, hgB, b13, _⟩, _, _, _⟩ := hI'.2.2.2 k hkM
  obtain ⟨⟨e9, e10, e11⟩, hc⟩ := hlt
  have b9 : B 9 k = nI o := by rw [e9]; exact a9
  have h0 : (0 : Int32) ≤ B 13 k := by rw [b13]; exact nI_pos' (by omega)
  have hn2 : N 2 < 100 := by omega
  have hdo : hD o = A 4 o := eD o ho
  -- the bin, if it lies in one
  obtain ⟨b, hb⟩ : ∃ b, A 12 k = 1 → b < N 1 ∧ A 14 k = nI b := by
    rcases hbin with ⟨_, b, h1, h2⟩ | ⟨h1, _⟩
    · exact ⟨b, fun _ => ⟨h1, h2⟩⟩
    · exact ⟨0, fun q => absurd q h1⟩
  have at1 : A 12 k = 1 → hB b = A 1 (A 14 k).toNatClampNeg := fun q => by
    obtain ⟨h1, h2⟩ := hb q
    rw [h2, nI_clamp (by omega)]
    exact eB b h1
  have h5 : ∀ gg, B 13 k = nI gg → gg ≤ g → g ≤ gg + 2 → ¬ B 13 k < L 1 k - 2 ∧ ¬ L 1 k + 0 < B 13 k := fun gg e1 e2 e3 => by
    rw [hL1, a13, e1]
    exact sub2_le (by omega) e3 e2
  refine ck417 (b := b) (n6 := N 3) hk n3 rfl (fun q => ⟨(hb q).1, by rw [hL3]; exact (hb q).2⟩) (by omega) (fun hu => ?_) (fun q hu => ?_)
  · -- not under water
    have ec : covI t A k = 0 := by
      unfold covI
      exact if_neg (fun q => q.2 (by rw [← at1 q.1]; exact hu q.1))
    rw [ec] at hK
    rcases hc with ⟨c, d, f, f15⟩ | ⟨c, _, d, f, f15⟩ | ⟨c, d, _⟩ | ⟨c, d, f⟩ | ⟨c0, c1, c4, d, f⟩
    · have h15 : A 15 k = 0 := by
        rcases hbin with ⟨h1, _⟩ | ⟨_, _, h1⟩
        · rw [c] at h1; exact absurd h1 (by decide)
        · exact h1
      have c1 : ¬ A 12 k = 1 := by rw [c]; decide
      exact ck454 hI' hkM ho b9 hn2 h0 (fun _ => h5 g (by rw [f]; exact a13) (Nat.le_refl _) (by omega)) (fun q => absurd rfl q) (fun _ => rfl) (fun q => absurd rfl q) (fun _ q => absurd q c1) (fun _ q => absurd q c1) (fun _ => ⟨by decide, fun _ => rfl, by rw [f15]; exact h15⟩) hK
    · refine ck454 hI' hkM ho b9 hn2 h0 (fun _ => ?_) (fun q => absurd rfl q) (fun _ => rfl) (fun q => absurd rfl q) (fun q _ => ?_) (fun q _ => ?_) (fun _ => ⟨by decide, fun _ => rfl, f15⟩) hK
      · rcases f with f | f
        · exact h5 g (by rw [f]; exact a13) (Nat.le_refl _) (by omega)
        · exact h5 (g - 2) (by rw [f, a13]; exact hv2_n (by omega)) (by omega) (by omega)
      · rw [d] at q; exact absurd q (by decide)
      · rw [d] at q; exact absurd q (by decide)
    · exact absurd (by rw [← at1 c]; exact hu c) d
    · have c1 : ¬ A 12 k = 1 := by rw [c]; decide
      refine ck454 hI' hkM ho b9 hn2 h0 (fun _ => h5 g (by rw [f]; exact a13) (Nat.le_refl _) (by omega)) (fun q => absurd rfl q) (fun _ => rfl) (fun q => absurd rfl q) (fun _ q => absurd q c1) (fun _ q => absurd q c1) (fun q => ?_) hK
      rcases d with d | ⟨d, _⟩ <;> rw [d] at q <;> exact absurd q (by decide)
    · exact ck454 hI' hkM ho b9 hn2 h0 (fun _ => h5 g (by rw [f]; exact a13) (Nat.le_refl _) (by omega)) (fun q => absurd rfl q) (fun _ => rfl) (fun q => absurd rfl q) (fun _ q => absurd q c1) (fun _ q => absurd q c1) (fun q => absurd (by rw [← d]; exact q) c1) hK
  · -- under water
    have hu2 : ¬ t ≤ A 1 (A 14 k).toNatClampNeg := by rw [← at1 q]; exact hu
    have ec : covI t A k = wsH t A k := if_pos ⟨q, hu2⟩
    rw [ec] at hK
    have hc1 : wsH t A k = if t < hD o then 0 else L 2 k + 1 := by
      unfold wsH
      rw [a9, nI_clamp (by omega), hdo, hL2 q]
    have hcc : B 13 k = A 13 k + (1 + A 10 k / 3) ∧ ((¬ B 13 k < A 11 k ∧ B 12 k = 3) ∨ (B 13 k < A 11 k ∧ ¬ wsH t A k < 3 ∧ B 12 k = 2) ∨ (B 13 k < A 11 k ∧ wsH t A k < 3 ∧ B 12 k = 1 ∧ B 15 k = wsH t A k)) := by
      rcases hc with ⟨c, _⟩ | ⟨_, c, _⟩ | ⟨_, _, c⟩ | ⟨c, _⟩ | ⟨_, c, _⟩
      · rw [q] at c; exact absurd c (by decide)
      · exact absurd c hu2
      · exact c
      · rw [q] at c; exact absurd c (by decide)
      · exact absurd q c
    obtain ⟨f, hf⟩ := hcc
    have h1 : B 12 k = 2 → A 12 k = 1 → wsH t A k = 3 := fun q2 _ => by
      rcases hf with ⟨_, e⟩ | ⟨_, e, _⟩ | ⟨_, _, e, _⟩
      · rw [q2] at e; exact absurd e (by decide)
      · exact wsH_3 hI hk e
      · rw [q2] at e; exact absurd e (by decide)
    have h2 : B 12 k = 3 → A 12 k = 1 → ¬ B 13 k < B 11 k := fun q2 _ => by
      rcases hf with ⟨e, _⟩ | ⟨_, _, e⟩ | ⟨_, _, e, _⟩
      · rw [e11]; exact e
      · rw [q2] at e; exact absurd e (by decide)
      · rw [q2] at e; exact absurd e (by decide)
    have h3 : B 12 k = 1 → ¬ 2 < wsH t A k ∧ (¬ B 13 k < B 11 k → (1 : Int32) = 0) ∧ B 15 k = wsH t A k := fun q2 => by
      rcases hf with ⟨_, e⟩ | ⟨_, _, e⟩ | ⟨e1, e2, _, e4⟩
      · rw [q2] at e; exact absurd e (by decide)
      · rw [q2] at e; exact absurd e (by decide)
      · obtain ⟨n, hn, en⟩ := wsH_n (t := t) hI hk
        exact ⟨n2_of en (by omega) e2, fun w => absurd (by rw [e11]; exact e1) w, e4⟩
    exact ck454 hI' hkM ho b9 hn2 h0 (fun w => absurd w (by decide)) (fun _ => by rw [hL1, e10]; exact f) (fun w => absurd w (by decide)) (fun _ => hc1) h1 h2 h3 hK
end KNW
