/-! THE LOOK AHEAD: the copy -/
def rng (N : Nat → Nat) (k : Nat) : Nat := if k = 0 then N 0 else if k < 4 then N 1 else if k < 9 then N 2 else N 3
/-- B is as A where the office has something -/
def AG (N : Nat → Nat) (A B : SA) : Prop := ∀ k j, k < 18 → j < rng N k → B k j = A k j
theorem IV.ag {N : Nat → Nat} {A B : SA} {V V' : SV} (h : IV N A V) (g : AG N A B) (hv : NI N V') : IV N B V' := by
  refine ⟨hv, BI.keep h.2.1 (fun b hb => g 2 b (by omega) hb) (fun b hb => g 3 b (by omega) hb) (fun b j _ hj => by rw [g 12 j (by omega) hj, g 14 j (by omega) hj]), fun o ho => ?_, fun l hl => (h.2.2.2 l hl).congr (fun k h1 h2 => ?_)⟩
  · rw [g 5 o (by omega) ho, g 6 o (by omega) ho]
    exact h.2.2.1 o ho
  · refine g k l (by omega) ?_
    unfold rng
    rw [if_neg (by omega), if_neg (by omega), if_neg (by omega)]
    exact hl
theorem MR.ag {N : Nat → Nat} {A B AM : SA} {VM : SV} (h : MR N A AM VM) (g : AG N A B) : MR N B AM VM := by
  obtain ⟨h1, h2, h3, h4, h5, h6, h7, h8, h9, h10, h11⟩ := h
  refine ⟨h1, h2, h3, h4, h5, h6, h7, fun j hj => ?_, fun b hb => ⟨?_, ?_⟩, fun o k ho hk => ?_, fun l k hl hk => ?_⟩
  · rw [g 0 j (by omega) hj]; exact h8 j hj
  · rw [g 1 b (by omega) hb]; exact (h9 b hb).1
  · rw [g 2 b (by omega) hb]; exact (h9 b hb).2
  · rw [g (4 + k) o (by omega) (by unfold rng; rw [if_neg (by omega), if_neg (by omega), if_pos (by omega)]; exact ho)]; exact h10 o k ho hk
  · rw [g (9 + k) l (by omega) (by unfold rng; rw [if_neg (by omega), if_neg (by omega), if_neg (by omega)]; exact hl)]; exact h11 l k hl hk
def cpF (A A2 : SA) (k n : Nat) : SA := ua A k (va_cpy (A2 k) (A k) 0 0 n)
theorem cpF_at (A A2 : SA) (k n q j : Nat) : cpF A A2 k n q j = if q = k ∧ j < n then A2 q j else A q j := by
  unfold cpF
  rw [ua_at]
  by_cases h : q = k
  · rw [if_pos h]
    by_cases h2 : j < n
    · rw [if_pos ⟨h, h2⟩, pk_cpy_in (by omega) (by omega), h, Nat.zero_add, Nat.sub_zero]
    · rw [if_neg (fun w => h2 w.2), pk_cpy_out (by omega), h]
  · rw [if_neg h, if_neg (fun w => h w.1)]
theorem sp_copy4 {A A2 : SA} {V V2 : SV} {n : Nat} {Q : SA → SV → SA → SV → Prop} (hV : V2 0 = nI n) (hn : n ≤ 30) (h : Q (cpF A A2 0 n) (uv V 0 (nI n)) A2 V2) : wpX4_copyFrom A V A2 V2 Q := by
  intro V1 e1
  rw [hV] at e1
  rw [e1, uv_at, if_pos rfl, nI_clamp (by omega)]
  refine ⟨by decide, by decide, nI_pos (by omega), Nat.le_trans (Nat.le_of_eq (Nat.zero_add n)) hn, Nat.le_trans (Nat.le_of_eq (Nat.zero_add n)) hn, fun A1 ea => ?_⟩
  rw [ea]; exact h
theorem sp_copy0 {A A2 : SA} {V V2 : SV} {n : Nat} {Q : SA → SV → SA → SV → Prop} (hV : V2 1 = nI n) (hn : n ≤ 10) (h : Q (cpF (cpF (cpF A A2 1 n) A2 2 n) A2 3 n) (uv V 1 (nI n)) A2 V2) : wpX0_copyFrom A V A2 V2 Q := by
  have b : (0 : Int32).toNatClampNeg + n ≤ 10 := Nat.le_trans (Nat.le_of_eq (Nat.zero_add n)) hn
  have p : ¬ nI n < 0 := nI_pos (by omega)
  intro V1 e1
  rw [hV] at e1
  rw [e1, uv_at, if_pos rfl, nI_clamp (by omega)]
  refine ⟨by decide, by decide, p, b, b, fun A1 e1 => ⟨by decide, by decide, p, b, b, fun A3 e3 => ⟨by decide, by decide, p, b, b, fun A4 e4 => ?_⟩⟩⟩
  rw [e4, e3, e1]; exact h
