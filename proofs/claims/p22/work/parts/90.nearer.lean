/-! THE ANSWERS COME NEARER -/
def hv (x : Int32) : Int32 := if 0 < x - 1 then x - 1 else 0
theorem hv_n {y : Nat} (hy : y < 2 ^ 31) : hv (nI y) = nI (y - 1) := by
  unfold hv
  rcases Nat.eq_zero_or_pos y with e | e
  · rw [e]; rfl
  · obtain ⟨z, hz⟩ : ∃ z, y = z + 1 := ⟨y - 1, by omega⟩
    rw [hz, nI_pred, Nat.add_sub_cancel]
    by_cases q : 0 < nI z
    · rw [if_pos q]
    · rw [if_neg q]
      rw [show (0 : Int32) = nI 0 from rfl, nI_ltI (by omega) (by omega)] at q
      have : z = 0 := by omega
      rw [this]; rfl
def nrS (t : Int32) (A : SA) (m : Nat) : SA := if hv (A 16 m) = 0 ∧ ¬ (30 : Int32) < t then up (up A 16 m (hv (A 16 m))) 12 m 5 else up A 16 m (hv (A 16 m))
def nrF (t : Int32) (A : SA) : Nat → SA
  | 0 => A
  | m + 1 => if nrF t A m 12 m = 4 then nrS t (nrF t A m) m else nrF t A m
theorem nr_t {t : Int32} {A : SA} {m : Nat} (h : nrF t A m 12 m = 4) : nrF t A (m + 1) = nrS t (nrF t A m) m := by
  rw [nrF, if_pos h]
theorem nr_f {t : Int32} {A : SA} {m : Nat} (h : ¬ nrF t A m 12 m = 4) : nrF t A (m + 1) = nrF t A m := by
  rw [nrF, if_neg h]
theorem up_same {A : SA} {k i : Nat} {v : Int32} (h : A k i = v) : up A k i v = A := by
  funext q j
  rw [up_at]
  split
  · rename_i e; rw [e.1, e.2, h]
  · rfl
theorem IV.nr {N : Nat → Nat} {A : SA} {V : SV} {t : Int32} {m : Nat} (h : IV N A V) (hm : m < N 3) (h4 : A 12 m = 4) : IV N (nrS t A m) V := by
  have hL := h.2.2.2 m hm
  obtain ⟨⟨o, ho, a9⟩, ⟨w, hw1, hw2, a10⟩, ⟨s, hs1, hs2, a11⟩, ⟨z, hz, a12⟩, ⟨g, hg, a13, hg2⟩, hbin, ⟨hh, hh2, a15⟩, ⟨y, hy, a16⟩⟩ := hL
  have hbin2 : A 14 m = -1 ∧ A 15 m = 0 := by
    rcases hbin with ⟨q, _⟩ | ⟨_, q⟩
    · rw [h4] at q; exact absurd q (by decide)
    · exact q
  have gen : ∀ B : SA, (∀ k j, k < 18 → ¬ ((k = 12 ∨ k = 16) ∧ j = m) → B k j = A k j) → (B 12 m = 4 ∨ B 12 m = 5) → B 16 m = nI (y - 1) → IV N B V := by
    intro B e b12 b16
    have n1 : ¬ B 12 m = 1 := by rcases b12 with q | q <;> rw [q] <;> decide
    have n0 : ¬ B 12 m = 0 := by rcases b12 with q | q <;> rw [q] <;> decide
    have m1 : ¬ A 12 m = 1 := by rw [h4]; decide
    refine IV.letter (l := m) h (fun k j h1 h2 h3 => e k j (by omega) (by omega)) (BI.keep h.2.1 (fun b _ => e 2 b (by omega) (by omega)) (fun b _ => e 3 b (by omega) (by omega)) (fun b j _ _ => ?_)) ?_
    · by_cases q : j = m
      · rw [q]; exact ⟨fun w => absurd w.1 n1, fun w => absurd w.1 m1⟩
      · rw [e 12 j (by omega) (by omega), e 14 j (by omega) (by omega)]
    · unfold LI
      rw [e 9 m (by omega) (by omega), e 10 m (by omega) (by omega), e 11 m (by omega) (by omega), e 13 m (by omega) (by omega), e 14 m (by omega) (by omega), e 15 m (by omega) (by omega)]
      refine ⟨⟨o, ho, a9⟩, ⟨w, hw1, hw2, a10⟩, ⟨s, hs1, hs2, a11⟩, ?_, ⟨g, hg, a13, fun q => absurd q (by rintro (q | q); exact n0 q; exact n1 q)⟩, Or.inr ⟨n1, hbin2⟩, ⟨hh, hh2, a15⟩, ⟨y - 1, by omega, b16⟩⟩
      rcases b12 with q | q
      · exact ⟨4, by omega, q⟩
      · exact ⟨5, by omega, q⟩
  unfold nrS
  split
  · exact gen _ (fun k j _ hk => by rw [up_ne (by omega), up_ne (by omega)]) (Or.inr up_eq) (by rw [up_ne (by omega), up_eq, a16, hv_n (by omega)])
  · exact gen _ (fun k j _ hk => up_ne (by omega)) (Or.inl (by rw [up_ne (by omega)]; exact h4)) (by rw [up_eq, a16, hv_n (by omega)])
theorem nr_IV {N : Nat → Nat} {A : SA} {V : SV} {t : Int32} (h : IV N A V) : ∀ m, m ≤ N 3 → IV N (nrF t A m) V := by
  intro m
  induction m with
  | zero => exact fun _ => h
  | succ m ih =>
    intro hm
    by_cases q : nrF t A m 12 m = 4
    · rw [nr_t q]; exact (ih (by omega)).nr (by omega) q
    · rw [nr_f q]; exact ih (by omega)
theorem sp_nearer {N : Nat → Nat} {A : SA} {V : SV} {t : Int32} {n : Nat} {Q : SA → SV → Prop} (hI : IV N A V) (hn : n ≤ N 3) (h : Q (nrF t A n) V) : wpX3_bringAnswersNearer A V (nI n) t Q := by
  have hn3 : N 3 ≤ 150 := hI.1.2.2.2.2.2.1
  refine ⟨n - 0 + 1, ?_⟩
  refine up_loop (P := fun f j => wl_X3_bringAnswersNearer_2 Q f (nrF t A j) V (nI n) t (nI j)) (fun f => ?_) (fun f j hj ih => ?_) 0 (Nat.zero_le _)
  · exact ⟨fun _ => h, fun hc => absurd (Int32.le_refl _) hc⟩
  · have hin : vp_in (nI j) 150 := vp_in_nI (by omega) (by omega)
    refine ⟨fun hc => ?_, fun _ => ⟨hin, ?_⟩⟩
    · rw [nI_leI (by omega) (by omega)] at hc; omega
    · rw [nI_clamp (by omega), nI_1]
      refine ⟨fun q => ?_, fun q => ⟨hin, ?_⟩⟩
      · rw [nr_f q] at ih; exact ih
      · obtain ⟨_, _, _, _, _, _, _, ⟨y, hy, a16⟩⟩ := (nr_IV (t := t) hI j (by omega)).2.2.2 j (by omega)
        rw [nr_t q] at ih
        unfold nrS at ih
        rw [a16, hv_n (by omega)] at ih
        have fin : ∀ A1 : SA, A1 = up (nrF t A j) 16 j (nI (y - 1)) → wb_X3_bringAnswersNearer_45 Q (wl_X3_bringAnswersNearer_2 Q f) A1 V (nI n) t (nI j) := by
          intro A1 e1
          unfold wb_X3_bringAnswersNearer_45
          rw [nI_clamp (by omega), nI_1]
          have e16 : A1 16 j = nI (y - 1) := by rw [e1, up_eq]
          rw [e16]
          refine ⟨hin, fun q1 => ?_, fun q1 => ⟨fun q2 => ?_, fun q2 => ⟨hin, fun A2 e2 => ?_⟩⟩⟩
          · rw [if_neg (fun w => q1 w.1)] at ih; rw [e1]; exact ih
          · rw [if_neg (fun w => w.2 q2)] at ih; rw [e1]; exact ih
          · rw [if_pos ⟨q1, q2⟩] at ih; rw [e2, e1]; exact ih
        rw [a16]
        refine ⟨fun q1 => fin _ ?_, fun q1 => ⟨hin, hin, fun A1 e1 => fin _ ?_⟩⟩
        · rw [show (0 : Int32) = nI 0 from rfl, nI_leI (by omega) (by omega)] at q1
          rw [up_same]
          rw [a16]
          have : y = 0 := by omega
          rw [this]
        · rw [show (0 : Int32) = nI 0 from rfl, nI_leI (by omega) (by omega)] at q1
          obtain ⟨z, hz⟩ : ∃ z, y = z + 1 := ⟨y - 1, by omega⟩
          rw [e1, hz, nI_pred, Nat.add_sub_cancel]
