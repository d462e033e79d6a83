/-! THE CALLS: the ends, and those of the quay -/
def nu (N : Nat → Nat) (k v : Nat) : Nat → Nat := fun q => if q = k then v else N q
theorem nu_eq (N : Nat → Nat) (k v : Nat) : nu N k v k = v := if_pos rfl
theorem nu_ne {N : Nat → Nat} {k v q : Nat} (h : q ≠ k) : nu N k v q = N q := if_neg h
theorem sp_within {x lo hi : Int32} {Q : Int32 → Prop} (h : Q (inI x lo hi)) : wpX5_isWithin x lo hi Q := by
  unfold inI at h
  refine ⟨fun h1 => ?_, fun h1 => ⟨fun h2 => ?_, fun h2 => ?_⟩⟩
  · rw [if_pos h1] at h; exact h
  · rw [if_neg h1, if_pos h2] at h; exact h
  · rw [if_neg h1, if_neg h2] at h; exact h
theorem in_nat {x : Int32} {lo hi : Nat} (h : ¬ inI x (nI lo) (nI hi) = 0) (hl : lo < 2 ^ 31) (hh : hi < 2 ^ 31) : ∃ k, lo ≤ k ∧ k ≤ hi ∧ x = nI k := by
  unfold inI at h
  by_cases h1 : x < nI lo
  · rw [if_pos h1] at h; exact absurd rfl h
  · by_cases h2 : nI hi < x
    · rw [if_neg h1, if_pos h2] at h; exact absurd rfl h
    · have a1 : (nI lo).toInt = (lo : Int) := nI_toInt hl
      have a2 : (nI hi).toInt = (hi : Int) := nI_toInt hh
      rw [Int32.lt_iff_toInt_lt, a1] at h1
      rw [Int32.lt_iff_toInt_lt, a2] at h2
      obtain ⟨j, hj, e⟩ := nI_of (x := x) (by rw [Int32.lt_iff_toInt_lt]; show ¬ x.toInt < 0; omega)
      have a3 : x.toInt = (j : Int) := by rw [e]; exact nI_toInt hj
      exact ⟨j, by omega, by omega, e⟩
theorem IV.put {N N' : Nat → Nat} {A B : SA} {V V' : SV} (h : IV N A V) (hN : NI N' V') (e1 : N' 1 = N 1) (e2 : N' 2 = N 2) (e3 : N' 3 = N 3) (e : ∀ k j, k = 2 ∨ k = 3 ∨ k = 5 ∨ k = 6 ∨ (9 ≤ k ∧ k ≤ 16) → B k j = A k j) : IV N' B V' := by
  have h2 := h.frame e
  refine ⟨hN, fun b hb => ?_, fun o ho => ?_, fun l hl => ?_⟩
  · rw [e1] at hb; rw [e3]; exact h2.2.1 b hb
  · rw [e2] at ho; exact h2.2.2.1 o ho
  · rw [e3] at hl; have := h2.2.2.2 l hl; unfold LI at this ⊢; rw [e1, e2]; exact this
theorem IV.tid {N : Nat → Nat} {A : SA} {V : SV} {n j : Nat} {x : Int32} (h : IV N A V) (h1 : 1 ≤ n) (h2 : n ≤ 30) : IV (nu N 0 n) (up A 0 j x) (uv V 0 (nI n)) := by
  obtain ⟨hV, n0, n1, n2, n3, n4, n5, n6, n7⟩ := id h.1
  refine h.put ⟨fun k hk => ?_, h1, h2, n2, n3, n4, n5, n6, n7⟩ rfl rfl rfl (fun k j hk => up_ne (by omega))
  by_cases q : k = 0
  · subst q; rfl
  · rw [uv_at, if_neg q, nu_ne q]; exact hV k hk

theorem IV.n3 {N : Nat → Nat} {A : SA} {V : SV} (h : IV N A V) : N 3 ≤ 150 := h.1.2.2.2.2.2.1
theorem IV.n2 {N : Nat → Nat} {A : SA} {V : SV} (h : IV N A V) : N 2 ≤ 16 := h.1.2.2.2.2.1
theorem IV.n1 {N : Nat → Nat} {A : SA} {V : SV} (h : IV N A V) : N 1 ≤ 10 := h.1.2.2.2.1
theorem IV.v {N : Nat → Nat} {A : SA} {V : SV} (h : IV N A V) (k : Nat) (hk : k < 7) : V k = nI (N k) := h.1.1 k hk
