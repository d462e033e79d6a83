/-! THE LOOK AHEAD: the copy, second half -/
theorem sp_copy1 {A A2 : SA} {V V2 : SV} {n : Nat} {Q : SA → SV → SA → SV → Prop} (hV : V2 2 = nI n) (hn : n ≤ 16) (h : Q (cpF (cpF (cpF (cpF (cpF A A2 4 n) A2 5 n) A2 6 n) A2 7 n) A2 8 n) (uv V 2 (nI n)) A2 V2) : wpX1_copyFrom A V A2 V2 Q := by
  have b : (0 : Int32).toNatClampNeg + n ≤ 16 := Nat.le_trans (Nat.le_of_eq (Nat.zero_add n)) hn
  have p : ¬ nI n < 0 := nI_pos (by omega)
  intro V1 e1
  rw [hV] at e1
  rw [e1, uv_at, if_pos rfl, nI_clamp (by omega)]
  refine ⟨by decide, by decide, p, b, b, fun B0 f0 => ⟨by decide, by decide, p, b, b, fun B1 f1 => ⟨by decide, by decide, p, b, b, fun B2 f2 => ⟨by decide, by decide, p, b, b, fun B3 f3 => ⟨by decide, by decide, p, b, b, fun B4 f4 => ?_⟩⟩⟩⟩⟩
  rw [f4, f3, f2, f1, f0]; exact h
theorem sp_copy2 {A A2 : SA} {V V2 : SV} {n : Nat} {Q : SA → SV → SA → SV → Prop} (hV : V2 3 = nI n) (hn : n ≤ 150) (h : Q (cpF (cpF (cpF (cpF (cpF (cpF (cpF (cpF (cpF A A2 9 n) A2 10 n) A2 11 n) A2 12 n) A2 13 n) A2 14 n) A2 15 n) A2 16 n) A2 17 n) (uv V 3 (nI n)) A2 V2) : wpX2_copyFrom A V A2 V2 Q := by
  have b : (0 : Int32).toNatClampNeg + n ≤ 150 := Nat.le_trans (Nat.le_of_eq (Nat.zero_add n)) hn
  have p : ¬ nI n < 0 := nI_pos (by omega)
  intro V1 e1
  rw [hV] at e1
  rw [e1, uv_at, if_pos rfl, nI_clamp (by omega)]
  refine ⟨by decide, by decide, p, b, b, fun B0 f0 => ⟨by decide, by decide, p, b, b, fun B1 f1 => ⟨by decide, by decide, p, b, b, fun B2 f2 => ⟨by decide, by decide, p, b, b, fun B3 f3 => ⟨by decide, by decide, p, b, b, fun B4 f4 => ⟨by decide, by decide, p, b, b, fun B5 f5 => ⟨by decide, by decide, p, b, b, fun B6 f6 => ⟨by decide, by decide, p, b, b, fun B7 f7 => ⟨by decide, by decide, p, b, b, fun B8 f8 => ?_⟩⟩⟩⟩⟩⟩⟩⟩⟩
  rw [f8, f7, f6, f5, f4, f3, f2, f1, f0]; exact h
def cpA (N : Nat → Nat) (A A2 : SA) : SA := (cpF (cpF (cpF (cpF (cpF (cpF (cpF (cpF (cpF (cpF (cpF (cpF (cpF (cpF (cpF (cpF (cpF (cpF A A2 0 (N 0)) A2 1 (N 1)) A2 2 (N 1)) A2 3 (N 1)) A2 4 (N 2)) A2 5 (N 2)) A2 6 (N 2)) A2 7 (N 2)) A2 8 (N 2)) A2 9 (N 3)) A2 10 (N 3)) A2 11 (N 3)) A2 12 (N 3)) A2 13 (N 3)) A2 14 (N 3)) A2 15 (N 3)) A2 16 (N 3)) A2 17 (N 3))
theorem cpA_ag (N : Nat → Nat) (A A2 : SA) : AG N A2 (cpA N A A2) := by
  intro k j hk hj
  have h18 : k = 0 ∨ k = 1 ∨ k = 2 ∨ k = 3 ∨ k = 4 ∨ k = 5 ∨ k = 6 ∨ k = 7 ∨ k = 8 ∨ k = 9 ∨ k = 10 ∨ k = 11 ∨ k = 12 ∨ k = 13 ∨ k = 14 ∨ k = 15 ∨ k = 16 ∨ k = 17 := by omega
  unfold cpA
  rcases h18 with e | e | e | e | e | e | e | e | e | e | e | e | e | e | e | e | e | e <;> subst e <;> simp only [rng] at hj <;> simp at hj <;> simp [cpF_at, hj]
theorem sp_copy {N : Nat → Nat} {A A2 : SA} {V V2 : SV} {Q : SA → SV → SA → SV → Prop} (hI : IV N A2 V2) (h : ∀ V', IV N (cpA N A A2) V' → Q (cpA N A A2) V' A2 V2) : wpX3_copyFrom A V A2 V2 Q := by
  obtain ⟨hV, n0, n1, n2, n3, n4, n5, n6, n7⟩ := id hI.1
  unfold wpX3_copyFrom wb_X3_copyFrom_0
  refine sp_copy4 (hV 0 (by omega)) n1 (sp_copy0 (hV 1 (by omega)) n2 (sp_copy1 (hV 2 (by omega)) n3 (sp_copy2 (hV 3 (by omega)) n4 (fun V4 e4 V5 e5 V6 e6 => ?_))))
  refine h V6 (hI.ag (cpA_ag N A A2) ⟨fun k hk => ?_, n0, n1, n2, n3, n4, n5, n6, n7⟩)
  rw [e6, e5, e4, hV 4 (by omega), hV 5 (by omega), hV 6 (by omega)]
  have h7 : k = 0 ∨ k = 1 ∨ k = 2 ∨ k = 3 ∨ k = 4 ∨ k = 5 ∨ k = 6 := by omega
  rcases h7 with e | e | e | e | e | e | e <;> subst e <;> simp [uv_at]
